/-! ===== words: those of the tables that last over a call, one row each ===== -/
def tpG : List Cond := lw_tbl.filter goodWord
theorem tpG_good {w : Cond} (h : w ∈ tpG) : goodWord w = true := (List.mem_filter.mp h).2
theorem tpG_mem {w : Cond} {i : Nat} (h : lw_tbl[i]? = some w) (hg : goodWord w = true) : w ∈ tpG := List.mem_filter.mpr ⟨List.mem_of_getElem? h, hg⟩
theorem tpG_all {ws : List Cond} (h : ∀ w ∈ ws, w ∈ tpG) : GoodIn tpG ws := fun w hw => ⟨h w hw, good_of_word (tpG_good (h w hw))⟩
theorem tpG_W {w : Cond} (h : w ∈ tpG) : GoodIn tpG (w :: tpG) := tpG_all (List.forall_mem_cons.mpr ⟨h, fun _ h => h⟩)
theorem tpG_V {own C : String} {idx : Nat} {y : MethodName} {w : Cond} (h1 : Cond.methodLink own idx y ∈ tpG) (h2 : Cond.instanceMethod y ∈ tpG) (h3 : Cond.selects C y y ∈ tpG) (h4 : Cond.initialized C ∈ tpG) (h5 : w ∈ tpG) : GoodIn tpG (wsV own idx C y (w :: tpG)) := by
  refine tpG_all ?_
  unfold wsV
  exact List.forall_mem_append.mpr ⟨List.forall_mem_cons.mpr ⟨h1, List.forall_mem_cons.mpr ⟨h2, List.forall_mem_cons.mpr ⟨h3, List.forall_mem_cons.mpr ⟨h4, fun _ h => absurd h List.not_mem_nil⟩⟩⟩⟩, List.forall_mem_cons.mpr ⟨h5, fun _ h => h⟩⟩
theorem tpG_S {own : String} {idx : Nat} {y : MethodName} {w : Cond} (h1 : Cond.methodLink own idx y ∈ tpG) (h2 : Cond.static y ∈ tpG) (h4 : Cond.initialized y.cls ∈ tpG) (h5 : w ∈ tpG) : GoodIn tpG (va_wsS own idx y (w :: tpG)) := by
  refine tpG_all ?_
  unfold va_wsS
  exact List.forall_mem_append.mpr ⟨List.forall_mem_cons.mpr ⟨h1, List.forall_mem_cons.mpr ⟨h2, List.forall_mem_cons.mpr ⟨h4, fun _ h => absurd h List.not_mem_nil⟩⟩⟩, List.forall_mem_cons.mpr ⟨h5, fun _ h => h⟩⟩
theorem wd_0 : Cond.fieldLink R_Row 15 "TagPress$Row" "count" "I" ∈ tpG := tpG_mem (i := 81) (by decide +kernel) rfl
theorem wd_1 : Cond.fieldLink R_Row 9 "TagPress$Row" "bytes" "[B" ∈ tpG := tpG_mem (i := 79) (by decide +kernel) rfl
theorem wd_2 : Cond.code y_Row_put c_Row_put 2 none ∈ tpG := tpG_mem (i := 256) (by decide +kernel) rfl
theorem wd_3 : Cond.initialized R_Row ∈ tpG := tpG_mem (i := 53) (by decide +kernel) rfl
theorem wd_4 : Cond.methodLink R_Row 19 y_Row_put ∈ tpG := tpG_mem (i := 269) (by decide +kernel) rfl
theorem wd_5 : Cond.instanceMethod y_Row_put ∈ tpG := tpG_mem (i := 254) (by decide +kernel) rfl
theorem wd_6 : Cond.selects R_Row y_Row_put y_Row_put ∈ tpG := tpG_mem (i := 255) (by decide +kernel) rfl
theorem wd_7 : Cond.code y_Row_set c_Row_set 3 none ∈ tpG := tpG_mem (i := 464) (by decide +kernel) rfl
theorem wd_8 : Cond.methodLink R_Row 23 y_Row_set ∈ tpG := tpG_mem (i := 470) (by decide +kernel) rfl
theorem wd_9 : Cond.instanceMethod y_Row_set ∈ tpG := tpG_mem (i := 462) (by decide +kernel) rfl
theorem wd_10 : Cond.selects R_Row y_Row_set y_Row_set ∈ tpG := tpG_mem (i := 463) (by decide +kernel) rfl
theorem wd_11 : Cond.code y_Row_at c_Row_at 2 (some .int) ∈ tpG := tpG_mem (i := 268) (by decide +kernel) rfl
theorem wd_12 : Cond.methodLink R_Row 27 y_Row_at ∈ tpG := tpG_mem (i := 265) (by decide +kernel) rfl
theorem wd_13 : Cond.instanceMethod y_Row_at ∈ tpG := tpG_mem (i := 266) (by decide +kernel) rfl
theorem wd_14 : Cond.selects R_Row y_Row_at y_Row_at ∈ tpG := tpG_mem (i := 267) (by decide +kernel) rfl
theorem wd_15 : Cond.code y_Row_fits c_Row_fits 1 (some .boolean) ∈ tpG := tpG_mem (i := 289) (by decide +kernel) rfl
theorem wd_16 : Cond.methodLink R_Row 31 y_Row_fits ∈ tpG := tpG_mem (i := 286) (by decide +kernel) rfl
theorem wd_17 : Cond.instanceMethod y_Row_fits ∈ tpG := tpG_mem (i := 287) (by decide +kernel) rfl
theorem wd_18 : Cond.selects R_Row y_Row_fits y_Row_fits ∈ tpG := tpG_mem (i := 288) (by decide +kernel) rfl
theorem wd_19 : Cond.methodLink R_Row 35 arraycopyName ∈ tpG := tpG_mem (i := 290) (by decide +kernel) rfl
theorem wd_20 : Cond.native arraycopyName ∈ tpG := tpG_mem (i := 292) (by decide +kernel) rfl
theorem wd_21 : Cond.static arraycopyName ∈ tpG := tpG_mem (i := 291) (by decide +kernel) rfl
theorem wd_22 : Cond.initialized "java/lang/System" ∈ tpG := tpG_mem (i := 60) (by decide +kernel) rfl
theorem wd_23 : Cond.constant R_Sums 19 (-2097792136) ∈ tpG := tpG_mem (i := 457) (by decide +kernel) rfl
theorem wd_24 : Cond.constant R_Sums 18 (-1568478504) ∈ tpG := tpG_mem (i := 458) (by decide +kernel) rfl
theorem wd_25 : Cond.methodLink R_Sums 7 y_Row_at ∈ tpG := tpG_mem (i := 453) (by decide +kernel) rfl
theorem wd_26 : Cond.code y_Sums_goRight c_Sums_goRight 4 (some .int) ∈ tpG := tpG_mem (i := 456) (by decide +kernel) rfl
theorem wd_27 : Cond.initialized R_Sums ∈ tpG := tpG_mem (i := 64) (by decide +kernel) rfl
theorem wd_28 : Cond.methodLink R_Sums 13 y_Sums_goRight ∈ tpG := tpG_mem (i := 454) (by decide +kernel) rfl
theorem wd_29 : Cond.static y_Sums_goRight ∈ tpG := tpG_mem (i := 455) (by decide +kernel) rfl
theorem wd_30 : Cond.fieldLink R_Matches 31 "TagPress$Matches" "data" "LTagPress$Row;" ∈ tpG := tpG_mem (i := 99) (by decide +kernel) rfl
theorem wd_31 : Cond.code y_Row_numberAt c_Row_numberAt 6 (some .long) ∈ tpG := tpG_mem (i := 314) (by decide +kernel) rfl
theorem wd_32 : Cond.methodLink R_Matches 50 y_Row_numberAt ∈ tpG := tpG_mem (i := 311) (by decide +kernel) rfl
theorem wd_33 : Cond.instanceMethod y_Row_numberAt ∈ tpG := tpG_mem (i := 312) (by decide +kernel) rfl
theorem wd_34 : Cond.selects R_Row y_Row_numberAt y_Row_numberAt ∈ tpG := tpG_mem (i := 313) (by decide +kernel) rfl
theorem wd_35 : Cond.constant R_Matches 54 (-1640531535) ∈ tpG := tpG_mem (i := 315) (by decide +kernel) rfl
theorem wd_36 : Cond.fieldLink R_Matches 15 "TagPress$Matches" "latest" "[I" ∈ tpG := tpG_mem (i := 101) (by decide +kernel) rfl
theorem wd_37 : Cond.code y_Ar_fill c_Ar_fill 4 none ∈ tpG := tpG_mem (i := 306) (by decide +kernel) rfl
theorem wd_38 : Cond.initialized R_Ar ∈ tpG := tpG_mem (i := 61) (by decide +kernel) rfl
theorem wd_39 : Cond.methodLink R_Matches 35 y_Ar_fill ∈ tpG := tpG_mem (i := 304) (by decide +kernel) rfl
theorem wd_40 : Cond.static y_Ar_fill ∈ tpG := tpG_mem (i := 305) (by decide +kernel) rfl
theorem wd_41 : Cond.code y_Matches_bucketOf c_Matches_bucketOf 2 (some .int) ∈ tpG := tpG_mem (i := 310) (by decide +kernel) rfl
theorem wd_42 : Cond.initialized R_Matches ∈ tpG := tpG_mem (i := 54) (by decide +kernel) rfl
theorem wd_43 : Cond.methodLink R_Matches 46 y_Matches_bucketOf ∈ tpG := tpG_mem (i := 307) (by decide +kernel) rfl
theorem wd_44 : Cond.instanceMethod y_Matches_bucketOf ∈ tpG := tpG_mem (i := 309) (by decide +kernel) rfl
theorem wd_45 : Cond.selects R_Matches y_Matches_bucketOf y_Matches_bucketOf ∈ tpG := tpG_mem (i := 0) (by decide +kernel) rfl
theorem wd_46 : Cond.fieldLink R_Matches 11 "TagPress$Matches" "before" "[I" ∈ tpG := tpG_mem (i := 100) (by decide +kernel) rfl
theorem wd_47 : Cond.methodLink R_Matches 55 Lib.Math.max.name ∈ tpG := tpG_mem (i := 324) (by decide +kernel) rfl
theorem wd_48 : Cond.static Lib.Math.max.name ∈ tpG := tpG_mem (i := 325) (by decide +kernel) rfl
theorem wd_49 : Cond.initialized "java/lang/Math" ∈ tpG := tpG_mem (i := 62) (by decide +kernel) rfl
theorem wd_50 : Cond.code Lib.Math.max.name Lib.Math.max.code 2 (some .int) ∈ tpG := tpG_mem (i := 326) (by decide +kernel) rfl
theorem wd_51 : Cond.fieldLink R_Matches 18 "TagPress$Matches" "from" "I" ∈ tpG := tpG_mem (i := 102) (by decide +kernel) rfl
theorem wd_52 : Cond.methodLink R_Matches 61 Lib.Math.min.name ∈ tpG := tpG_mem (i := 327) (by decide +kernel) rfl
theorem wd_53 : Cond.static Lib.Math.min.name ∈ tpG := tpG_mem (i := 328) (by decide +kernel) rfl
theorem wd_54 : Cond.code Lib.Math.min.name Lib.Math.min.code 2 (some .int) ∈ tpG := tpG_mem (i := 329) (by decide +kernel) rfl
theorem wd_55 : Cond.fieldLink R_Matches 22 "TagPress$Matches" "to" "I" ∈ tpG := tpG_mem (i := 103) (by decide +kernel) rfl
theorem wd_56 : Cond.fieldLink R_Matches 25 "TagPress$Matches" "length" "I" ∈ tpG := tpG_mem (i := 104) (by decide +kernel) rfl
theorem wd_57 : Cond.code y_Matches_earlier c_Matches_earlier 2 (some .int) ∈ tpG := tpG_mem (i := 346) (by decide +kernel) rfl
theorem wd_58 : Cond.methodLink R_Matches 75 y_Matches_earlier ∈ tpG := tpG_mem (i := 343) (by decide +kernel) rfl
theorem wd_59 : Cond.instanceMethod y_Matches_earlier ∈ tpG := tpG_mem (i := 345) (by decide +kernel) rfl
theorem wd_60 : Cond.selects R_Matches y_Matches_earlier y_Matches_earlier ∈ tpG := tpG_mem (i := 3) (by decide +kernel) rfl
theorem wd_61 : Cond.code y_Matches_alike c_Matches_alike 5 (some .int) ∈ tpG := tpG_mem (i := 350) (by decide +kernel) rfl
theorem wd_62 : Cond.methodLink R_Matches 78 y_Matches_alike ∈ tpG := tpG_mem (i := 347) (by decide +kernel) rfl
theorem wd_63 : Cond.instanceMethod y_Matches_alike ∈ tpG := tpG_mem (i := 349) (by decide +kernel) rfl
theorem wd_64 : Cond.selects R_Matches y_Matches_alike y_Matches_alike ∈ tpG := tpG_mem (i := 4) (by decide +kernel) rfl
theorem wd_65 : Cond.fieldLink R_Matches 28 "TagPress$Matches" "distance" "I" ∈ tpG := tpG_mem (i := 106) (by decide +kernel) rfl
theorem wd_66 : Cond.methodLink R_Matches 82 y_Row_at ∈ tpG := tpG_mem (i := 355) (by decide +kernel) rfl
theorem wd_67 : Cond.code y_Matches_findLongest c_Matches_findLongest 5 none ∈ tpG := tpG_mem (i := 354) (by decide +kernel) rfl
theorem wd_68 : Cond.methodLink R_Matches 68 y_Matches_findLongest ∈ tpG := tpG_mem (i := 351) (by decide +kernel) rfl
theorem wd_69 : Cond.instanceMethod y_Matches_findLongest ∈ tpG := tpG_mem (i := 353) (by decide +kernel) rfl
theorem wd_70 : Cond.selects R_Matches y_Matches_findLongest y_Matches_findLongest ∈ tpG := tpG_mem (i := 5) (by decide +kernel) rfl
theorem wd_71 : Cond.code y_Matches_dropIfNextIsLonger c_Matches_dropIfNextIsLonger 4 none ∈ tpG := tpG_mem (i := 359) (by decide +kernel) rfl
theorem wd_72 : Cond.methodLink R_Matches 72 y_Matches_dropIfNextIsLonger ∈ tpG := tpG_mem (i := 356) (by decide +kernel) rfl
theorem wd_73 : Cond.instanceMethod y_Matches_dropIfNextIsLonger ∈ tpG := tpG_mem (i := 358) (by decide +kernel) rfl
theorem wd_74 : Cond.selects R_Matches y_Matches_dropIfNextIsLonger y_Matches_dropIfNextIsLonger ∈ tpG := tpG_mem (i := 6) (by decide +kernel) rfl
theorem wd_75 : Cond.code y_Matches_findNearest c_Matches_findNearest 5 none ∈ tpG := tpG_mem (i := 342) (by decide +kernel) rfl
theorem wd_76 : Cond.methodLink R_Matches 64 y_Matches_findNearest ∈ tpG := tpG_mem (i := 339) (by decide +kernel) rfl
theorem wd_77 : Cond.instanceMethod y_Matches_findNearest ∈ tpG := tpG_mem (i := 341) (by decide +kernel) rfl
theorem wd_78 : Cond.selects R_Matches y_Matches_findNearest y_Matches_findNearest ∈ tpG := tpG_mem (i := 2) (by decide +kernel) rfl
theorem wd_79 : Cond.fieldLink R_BlockWriter 13 "TagPress$BlockWriter" "target" "LTagPress$Row;" ∈ tpG := tpG_mem (i := 131) (by decide +kernel) rfl
theorem wd_80 : Cond.methodLink R_BlockWriter 46 y_Row_put ∈ tpG := tpG_mem (i := 334) (by decide +kernel) rfl
theorem wd_81 : Cond.code y_Row_putNumber c_Row_putNumber 4 none ∈ tpG := tpG_mem (i := 367) (by decide +kernel) rfl
theorem wd_82 : Cond.methodLink R_BlockWriter 51 y_Row_putNumber ∈ tpG := tpG_mem (i := 364) (by decide +kernel) rfl
theorem wd_83 : Cond.instanceMethod y_Row_putNumber ∈ tpG := tpG_mem (i := 365) (by decide +kernel) rfl
theorem wd_84 : Cond.selects R_Row y_Row_putNumber y_Row_putNumber ∈ tpG := tpG_mem (i := 366) (by decide +kernel) rfl
theorem wd_85 : Cond.fieldLink R_BlockWriter 7 "TagPress$BlockWriter" "data" "LTagPress$Row;" ∈ tpG := tpG_mem (i := 130) (by decide +kernel) rfl
theorem wd_86 : Cond.code y_Row_putFrom c_Row_putFrom 5 none ∈ tpG := tpG_mem (i := 371) (by decide +kernel) rfl
theorem wd_87 : Cond.methodLink R_BlockWriter 54 y_Row_putFrom ∈ tpG := tpG_mem (i := 368) (by decide +kernel) rfl
theorem wd_88 : Cond.instanceMethod y_Row_putFrom ∈ tpG := tpG_mem (i := 369) (by decide +kernel) rfl
theorem wd_89 : Cond.selects R_Row y_Row_putFrom y_Row_putFrom ∈ tpG := tpG_mem (i := 370) (by decide +kernel) rfl
theorem wd_90 : Cond.methodLink R_BlockWriter 58 Lib.Math.min.name ∈ tpG := tpG_mem (i := 376) (by decide +kernel) rfl
theorem wd_91 : Cond.fieldLink R_BlockWriter 16 "TagPress$BlockWriter" "matches" "LTagPress$Matches;" ∈ tpG := tpG_mem (i := 132) (by decide +kernel) rfl
theorem wd_92 : Cond.code y_Matches_keepWithin c_Matches_keepWithin 3 none ∈ tpG := tpG_mem (i := 323) (by decide +kernel) rfl
theorem wd_93 : Cond.methodLink R_BlockWriter 20 y_Matches_keepWithin ∈ tpG := tpG_mem (i := 320) (by decide +kernel) rfl
theorem wd_94 : Cond.instanceMethod y_Matches_keepWithin ∈ tpG := tpG_mem (i := 321) (by decide +kernel) rfl
theorem wd_95 : Cond.selects R_Matches y_Matches_keepWithin y_Matches_keepWithin ∈ tpG := tpG_mem (i := 322) (by decide +kernel) rfl
theorem wd_96 : Cond.code y_BlockWriter_putLength c_BlockWriter_putLength 4 none ∈ tpG := tpG_mem (i := 333) (by decide +kernel) rfl
theorem wd_97 : Cond.initialized R_BlockWriter ∈ tpG := tpG_mem (i := 55) (by decide +kernel) rfl
theorem wd_98 : Cond.methodLink R_BlockWriter 26 y_BlockWriter_putLength ∈ tpG := tpG_mem (i := 330) (by decide +kernel) rfl
theorem wd_99 : Cond.instanceMethod y_BlockWriter_putLength ∈ tpG := tpG_mem (i := 332) (by decide +kernel) rfl
theorem wd_100 : Cond.selects R_BlockWriter y_BlockWriter_putLength y_BlockWriter_putLength ∈ tpG := tpG_mem (i := 1) (by decide +kernel) rfl
theorem wd_101 : Cond.code y_BlockWriter_putLiterals c_BlockWriter_putLiterals 4 none ∈ tpG := tpG_mem (i := 363) (by decide +kernel) rfl
theorem wd_102 : Cond.methodLink R_BlockWriter 37 y_BlockWriter_putLiterals ∈ tpG := tpG_mem (i := 360) (by decide +kernel) rfl
theorem wd_103 : Cond.instanceMethod y_BlockWriter_putLiterals ∈ tpG := tpG_mem (i := 362) (by decide +kernel) rfl
theorem wd_104 : Cond.selects R_BlockWriter y_BlockWriter_putLiterals y_BlockWriter_putLiterals ∈ tpG := tpG_mem (i := 7) (by decide +kernel) rfl
theorem wd_105 : Cond.code y_Matches_findAt c_Matches_findAt 3 none ∈ tpG := tpG_mem (i := 338) (by decide +kernel) rfl
theorem wd_106 : Cond.methodLink R_BlockWriter 30 y_Matches_findAt ∈ tpG := tpG_mem (i := 335) (by decide +kernel) rfl
theorem wd_107 : Cond.instanceMethod y_Matches_findAt ∈ tpG := tpG_mem (i := 336) (by decide +kernel) rfl
theorem wd_108 : Cond.selects R_Matches y_Matches_findAt y_Matches_findAt ∈ tpG := tpG_mem (i := 337) (by decide +kernel) rfl
theorem wd_109 : Cond.code y_BlockWriter_putMatch c_BlockWriter_putMatch 6 none ∈ tpG := tpG_mem (i := 375) (by decide +kernel) rfl
theorem wd_110 : Cond.methodLink R_BlockWriter 43 y_BlockWriter_putMatch ∈ tpG := tpG_mem (i := 372) (by decide +kernel) rfl
theorem wd_111 : Cond.instanceMethod y_BlockWriter_putMatch ∈ tpG := tpG_mem (i := 374) (by decide +kernel) rfl
theorem wd_112 : Cond.selects R_BlockWriter y_BlockWriter_putMatch y_BlockWriter_putMatch ∈ tpG := tpG_mem (i := 8) (by decide +kernel) rfl
theorem wd_113 : Cond.fieldLink R_StreamWriter 13 "TagPress$StreamWriter" "target" "LTagPress$Row;" ∈ tpG := tpG_mem (i := 147) (by decide +kernel) rfl
theorem wd_114 : Cond.methodLink R_StreamWriter 22 y_Row_put ∈ tpG := tpG_mem (i := 441) (by decide +kernel) rfl
theorem wd_115 : Cond.methodLink R_StreamWriter 32 y_Row_putNumber ∈ tpG := tpG_mem (i := 444) (by decide +kernel) rfl
theorem wd_116 : Cond.fieldLink R_StreamWriter 7 "TagPress$StreamWriter" "data" "LTagPress$Row;" ∈ tpG := tpG_mem (i := 146) (by decide +kernel) rfl
theorem wd_117 : Cond.code y_Sums_sumOf c_Sums_sumOf 5 (some .int) ∈ tpG := tpG_mem (i := 452) (by decide +kernel) rfl
theorem wd_118 : Cond.methodLink R_StreamWriter 40 y_Sums_sumOf ∈ tpG := tpG_mem (i := 450) (by decide +kernel) rfl
theorem wd_119 : Cond.static y_Sums_sumOf ∈ tpG := tpG_mem (i := 451) (by decide +kernel) rfl
theorem wd_120 : Cond.fieldLink R_StreamWriter 16 "TagPress$StreamWriter" "blocks" "LTagPress$BlockWriter;" ∈ tpG := tpG_mem (i := 148) (by decide +kernel) rfl
theorem wd_121 : Cond.code y_BlockWriter_putBlock c_BlockWriter_putBlock 6 none ∈ tpG := tpG_mem (i := 319) (by decide +kernel) rfl
theorem wd_122 : Cond.methodLink R_StreamWriter 46 y_BlockWriter_putBlock ∈ tpG := tpG_mem (i := 459) (by decide +kernel) rfl
theorem wd_123 : Cond.instanceMethod y_BlockWriter_putBlock ∈ tpG := tpG_mem (i := 317) (by decide +kernel) rfl
theorem wd_124 : Cond.selects R_BlockWriter y_BlockWriter_putBlock y_BlockWriter_putBlock ∈ tpG := tpG_mem (i := 318) (by decide +kernel) rfl
theorem wd_125 : Cond.code y_Row_shorten c_Row_shorten 2 none ∈ tpG := tpG_mem (i := 277) (by decide +kernel) rfl
theorem wd_126 : Cond.methodLink R_StreamWriter 52 y_Row_shorten ∈ tpG := tpG_mem (i := 460) (by decide +kernel) rfl
theorem wd_127 : Cond.instanceMethod y_Row_shorten ∈ tpG := tpG_mem (i := 275) (by decide +kernel) rfl
theorem wd_128 : Cond.selects R_Row y_Row_shorten y_Row_shorten ∈ tpG := tpG_mem (i := 276) (by decide +kernel) rfl
theorem wd_129 : Cond.methodLink R_StreamWriter 55 y_Row_set ∈ tpG := tpG_mem (i := 461) (by decide +kernel) rfl
theorem wd_130 : Cond.methodLink R_StreamWriter 58 y_Row_putFrom ∈ tpG := tpG_mem (i := 465) (by decide +kernel) rfl
theorem wd_131 : Cond.code y_Row_setNumber c_Row_setNumber 5 none ∈ tpG := tpG_mem (i := 469) (by decide +kernel) rfl
theorem wd_132 : Cond.methodLink R_StreamWriter 62 y_Row_setNumber ∈ tpG := tpG_mem (i := 466) (by decide +kernel) rfl
theorem wd_133 : Cond.instanceMethod y_Row_setNumber ∈ tpG := tpG_mem (i := 467) (by decide +kernel) rfl
theorem wd_134 : Cond.selects R_Row y_Row_setNumber y_Row_setNumber ∈ tpG := tpG_mem (i := 468) (by decide +kernel) rfl
theorem wd_135 : Cond.fieldLink R_BlockReader 35 "TagPress$BlockReader" "target" "LTagPress$Row;" ∈ tpG := tpG_mem (i := 163) (by decide +kernel) rfl
theorem wd_136 : Cond.fieldLink R_BlockReader 18 "TagPress$BlockReader" "targetBegin" "I" ∈ tpG := tpG_mem (i := 166) (by decide +kernel) rfl
theorem wd_137 : Cond.fieldLink R_BlockReader 25 "TagPress$BlockReader" "fault" "I" ∈ tpG := tpG_mem (i := 168) (by decide +kernel) rfl
theorem wd_138 : Cond.fieldLink R_BlockReader 28 "TagPress$BlockReader" "faultPlace" "I" ∈ tpG := tpG_mem (i := 171) (by decide +kernel) rfl
theorem wd_139 : Cond.fieldLink R_BlockReader 9 "TagPress$BlockReader" "at" "I" ∈ tpG := tpG_mem (i := 164) (by decide +kernel) rfl
theorem wd_140 : Cond.fieldLink R_BlockReader 15 "TagPress$BlockReader" "end" "I" ∈ tpG := tpG_mem (i := 165) (by decide +kernel) rfl
theorem wd_141 : Cond.fieldLink R_BlockReader 31 "TagPress$BlockReader" "source" "LTagPress$Row;" ∈ tpG := tpG_mem (i := 162) (by decide +kernel) rfl
theorem wd_142 : Cond.methodLink R_BlockReader 80 y_Row_at ∈ tpG := tpG_mem (i := 405) (by decide +kernel) rfl
theorem wd_143 : Cond.code y_BlockReader_fail c_BlockReader_fail 3 none ∈ tpG := tpG_mem (i := 404) (by decide +kernel) rfl
theorem wd_144 : Cond.initialized R_BlockReader ∈ tpG := tpG_mem (i := 57) (by decide +kernel) rfl
theorem wd_145 : Cond.methodLink R_BlockReader 54 y_BlockReader_fail ∈ tpG := tpG_mem (i := 401) (by decide +kernel) rfl
theorem wd_146 : Cond.instanceMethod y_BlockReader_fail ∈ tpG := tpG_mem (i := 403) (by decide +kernel) rfl
theorem wd_147 : Cond.selects R_BlockReader y_BlockReader_fail y_BlockReader_fail ∈ tpG := tpG_mem (i := 12) (by decide +kernel) rfl
theorem wd_148 : Cond.methodLink R_BlockReader 83 y_Row_numberAt ∈ tpG := tpG_mem (i := 414) (by decide +kernel) rfl
theorem wd_149 : Cond.fieldLink R_BlockReader 21 "TagPress$BlockReader" "length" "J" ∈ tpG := tpG_mem (i := 167) (by decide +kernel) rfl
theorem wd_150 : Cond.code y_BlockReader_made c_BlockReader_made 1 (some .int) ∈ tpG := tpG_mem (i := 422) (by decide +kernel) rfl
theorem wd_151 : Cond.methodLink R_BlockReader 50 y_BlockReader_made ∈ tpG := tpG_mem (i := 419) (by decide +kernel) rfl
theorem wd_152 : Cond.instanceMethod y_BlockReader_made ∈ tpG := tpG_mem (i := 421) (by decide +kernel) rfl
theorem wd_153 : Cond.selects R_BlockReader y_BlockReader_made y_BlockReader_made ∈ tpG := tpG_mem (i := 16) (by decide +kernel) rfl
theorem wd_154 : Cond.methodLink R_BlockReader 73 y_Row_putFrom ∈ tpG := tpG_mem (i := 423) (by decide +kernel) rfl
theorem wd_155 : Cond.code y_Row_putBack c_Row_putBack 4 none ∈ tpG := tpG_mem (i := 264) (by decide +kernel) rfl
theorem wd_156 : Cond.methodLink R_BlockReader 77 y_Row_putBack ∈ tpG := tpG_mem (i := 428) (by decide +kernel) rfl
theorem wd_157 : Cond.instanceMethod y_Row_putBack ∈ tpG := tpG_mem (i := 262) (by decide +kernel) rfl
theorem wd_158 : Cond.selects R_Row y_Row_putBack y_Row_putBack ∈ tpG := tpG_mem (i := 263) (by decide +kernel) rfl
theorem wd_159 : Cond.code y_BlockReader_next c_BlockReader_next 1 (some .int) ∈ tpG := tpG_mem (i := 400) (by decide +kernel) rfl
theorem wd_160 : Cond.methodLink R_BlockReader 58 y_BlockReader_next ∈ tpG := tpG_mem (i := 397) (by decide +kernel) rfl
theorem wd_161 : Cond.instanceMethod y_BlockReader_next ∈ tpG := tpG_mem (i := 399) (by decide +kernel) rfl
theorem wd_162 : Cond.selects R_BlockReader y_BlockReader_next y_BlockReader_next ∈ tpG := tpG_mem (i := 11) (by decide +kernel) rfl
theorem wd_163 : Cond.code y_BlockReader_nextNumber c_BlockReader_nextNumber 2 (some .long) ∈ tpG := tpG_mem (i := 413) (by decide +kernel) rfl
theorem wd_164 : Cond.methodLink R_BlockReader 61 y_BlockReader_nextNumber ∈ tpG := tpG_mem (i := 410) (by decide +kernel) rfl
theorem wd_165 : Cond.instanceMethod y_BlockReader_nextNumber ∈ tpG := tpG_mem (i := 412) (by decide +kernel) rfl
theorem wd_166 : Cond.selects R_BlockReader y_BlockReader_nextNumber y_BlockReader_nextNumber ∈ tpG := tpG_mem (i := 14) (by decide +kernel) rfl
theorem wd_167 : Cond.code y_BlockReader_readLiterals c_BlockReader_readLiterals 4 none ∈ tpG := tpG_mem (i := 418) (by decide +kernel) rfl
theorem wd_168 : Cond.methodLink R_BlockReader 65 y_BlockReader_readLiterals ∈ tpG := tpG_mem (i := 415) (by decide +kernel) rfl
theorem wd_169 : Cond.instanceMethod y_BlockReader_readLiterals ∈ tpG := tpG_mem (i := 417) (by decide +kernel) rfl
theorem wd_170 : Cond.selects R_BlockReader y_BlockReader_readLiterals y_BlockReader_readLiterals ∈ tpG := tpG_mem (i := 15) (by decide +kernel) rfl
theorem wd_171 : Cond.code y_BlockReader_readCopy c_BlockReader_readCopy 5 none ∈ tpG := tpG_mem (i := 427) (by decide +kernel) rfl
theorem wd_172 : Cond.methodLink R_BlockReader 69 y_BlockReader_readCopy ∈ tpG := tpG_mem (i := 424) (by decide +kernel) rfl
theorem wd_173 : Cond.instanceMethod y_BlockReader_readCopy ∈ tpG := tpG_mem (i := 426) (by decide +kernel) rfl
theorem wd_174 : Cond.selects R_BlockReader y_BlockReader_readCopy y_BlockReader_readCopy ∈ tpG := tpG_mem (i := 17) (by decide +kernel) rfl
theorem wd_175 : Cond.code y_BlockReader_readLength c_BlockReader_readLength 5 none ∈ tpG := tpG_mem (i := 396) (by decide +kernel) rfl
theorem wd_176 : Cond.methodLink R_BlockReader 43 y_BlockReader_readLength ∈ tpG := tpG_mem (i := 393) (by decide +kernel) rfl
theorem wd_177 : Cond.instanceMethod y_BlockReader_readLength ∈ tpG := tpG_mem (i := 395) (by decide +kernel) rfl
theorem wd_178 : Cond.selects R_BlockReader y_BlockReader_readLength y_BlockReader_readLength ∈ tpG := tpG_mem (i := 10) (by decide +kernel) rfl
theorem wd_179 : Cond.code y_BlockReader_readElement c_BlockReader_readElement 4 none ∈ tpG := tpG_mem (i := 409) (by decide +kernel) rfl
theorem wd_180 : Cond.methodLink R_BlockReader 47 y_BlockReader_readElement ∈ tpG := tpG_mem (i := 406) (by decide +kernel) rfl
theorem wd_181 : Cond.instanceMethod y_BlockReader_readElement ∈ tpG := tpG_mem (i := 408) (by decide +kernel) rfl
theorem wd_182 : Cond.selects R_BlockReader y_BlockReader_readElement y_BlockReader_readElement ∈ tpG := tpG_mem (i := 13) (by decide +kernel) rfl
theorem wd_183 : Cond.fieldLink R_StreamReader 16 "TagPress$StreamReader" "fault" "I" ∈ tpG := tpG_mem (i := 202) (by decide +kernel) rfl
theorem wd_184 : Cond.fieldLink R_StreamReader 19 "TagPress$StreamReader" "faultPlace" "I" ∈ tpG := tpG_mem (i := 204) (by decide +kernel) rfl
theorem wd_185 : Cond.fieldLink R_StreamReader 7 "TagPress$StreamReader" "at" "I" ∈ tpG := tpG_mem (i := 200) (by decide +kernel) rfl
theorem wd_186 : Cond.fieldLink R_StreamReader 13 "TagPress$StreamReader" "most" "I" ∈ tpG := tpG_mem (i := 201) (by decide +kernel) rfl
theorem wd_187 : Cond.fieldLink R_StreamReader 22 "TagPress$StreamReader" "source" "LTagPress$Row;" ∈ tpG := tpG_mem (i := 197) (by decide +kernel) rfl
theorem wd_188 : Cond.code y_StreamReader_fail c_StreamReader_fail 3 none ∈ tpG := tpG_mem (i := 500) (by decide +kernel) rfl
theorem wd_189 : Cond.initialized R_StreamReader ∈ tpG := tpG_mem (i := 58) (by decide +kernel) rfl
theorem wd_190 : Cond.methodLink R_StreamReader 76 y_StreamReader_fail ∈ tpG := tpG_mem (i := 497) (by decide +kernel) rfl
theorem wd_191 : Cond.instanceMethod y_StreamReader_fail ∈ tpG := tpG_mem (i := 499) (by decide +kernel) rfl
theorem wd_192 : Cond.selects R_StreamReader y_StreamReader_fail y_StreamReader_fail ∈ tpG := tpG_mem (i := 20) (by decide +kernel) rfl
theorem wd_193 : Cond.constant R_StreamReader 79 (65540) ∈ tpG := tpG_mem (i := 501) (by decide +kernel) rfl
theorem wd_194 : Cond.methodLink R_StreamReader 38 y_Row_at ∈ tpG := tpG_mem (i := 491) (by decide +kernel) rfl
theorem wd_195 : Cond.fieldLink R_StreamReader 29 "TagPress$StreamReader" "blocks" "LTagPress$BlockReader;" ∈ tpG := tpG_mem (i := 199) (by decide +kernel) rfl
theorem wd_196 : Cond.fieldLink R_StreamReader 26 "TagPress$StreamReader" "target" "LTagPress$Row;" ∈ tpG := tpG_mem (i := 198) (by decide +kernel) rfl
theorem wd_197 : Cond.methodLink R_StreamReader 86 y_Row_putFrom ∈ tpG := tpG_mem (i := 523) (by decide +kernel) rfl
theorem wd_198 : Cond.methodLink R_StreamReader 41 y_Row_numberAt ∈ tpG := tpG_mem (i := 492) (by decide +kernel) rfl
theorem wd_199 : Cond.methodLink R_StreamReader 90 y_Sums_sumOf ∈ tpG := tpG_mem (i := 518) (by decide +kernel) rfl
theorem wd_200 : Cond.code y_StreamReader_checkHead c_StreamReader_checkHead 5 none ∈ tpG := tpG_mem (i := 496) (by decide +kernel) rfl
theorem wd_201 : Cond.methodLink R_StreamReader 45 y_StreamReader_checkHead ∈ tpG := tpG_mem (i := 493) (by decide +kernel) rfl
theorem wd_202 : Cond.instanceMethod y_StreamReader_checkHead ∈ tpG := tpG_mem (i := 495) (by decide +kernel) rfl
theorem wd_203 : Cond.selects R_StreamReader y_StreamReader_checkHead y_StreamReader_checkHead ∈ tpG := tpG_mem (i := 19) (by decide +kernel) rfl
theorem wd_204 : Cond.code y_StreamReader_readPlain c_StreamReader_readPlain 4 none ∈ tpG := tpG_mem (i := 522) (by decide +kernel) rfl
theorem wd_205 : Cond.methodLink R_StreamReader 73 y_StreamReader_readPlain ∈ tpG := tpG_mem (i := 519) (by decide +kernel) rfl
theorem wd_206 : Cond.instanceMethod y_StreamReader_readPlain ∈ tpG := tpG_mem (i := 521) (by decide +kernel) rfl
theorem wd_207 : Cond.selects R_StreamReader y_StreamReader_readPlain y_StreamReader_readPlain ∈ tpG := tpG_mem (i := 24) (by decide +kernel) rfl
theorem wd_208 : Cond.code y_StreamReader_checkSum c_StreamReader_checkSum 4 none ∈ tpG := tpG_mem (i := 517) (by decide +kernel) rfl
theorem wd_209 : Cond.methodLink R_StreamReader 70 y_StreamReader_checkSum ∈ tpG := tpG_mem (i := 514) (by decide +kernel) rfl
theorem wd_210 : Cond.instanceMethod y_StreamReader_checkSum ∈ tpG := tpG_mem (i := 516) (by decide +kernel) rfl
theorem wd_211 : Cond.selects R_StreamReader y_StreamReader_checkSum y_StreamReader_checkSum ∈ tpG := tpG_mem (i := 23) (by decide +kernel) rfl
theorem wd_212 : Cond.constant R_StreamReader 54 (65536) ∈ tpG := tpG_mem (i := 507) (by decide +kernel) rfl
theorem wd_213 : Cond.methodLink R_StreamReader 55 Lib.Math.min.name ∈ tpG := tpG_mem (i := 508) (by decide +kernel) rfl
theorem wd_214 : Cond.code y_BlockReader_readBlock c_BlockReader_readBlock 5 none ∈ tpG := tpG_mem (i := 392) (by decide +kernel) rfl
theorem wd_215 : Cond.methodLink R_StreamReader 61 y_BlockReader_readBlock ∈ tpG := tpG_mem (i := 509) (by decide +kernel) rfl
theorem wd_216 : Cond.instanceMethod y_BlockReader_readBlock ∈ tpG := tpG_mem (i := 390) (by decide +kernel) rfl
theorem wd_217 : Cond.selects R_BlockReader y_BlockReader_readBlock y_BlockReader_readBlock ∈ tpG := tpG_mem (i := 391) (by decide +kernel) rfl
theorem wd_218 : Cond.code y_StreamReader_takeFaultOfBlock c_StreamReader_takeFaultOfBlock 1 none ∈ tpG := tpG_mem (i := 513) (by decide +kernel) rfl
theorem wd_219 : Cond.methodLink R_StreamReader 67 y_StreamReader_takeFaultOfBlock ∈ tpG := tpG_mem (i := 510) (by decide +kernel) rfl
theorem wd_220 : Cond.instanceMethod y_StreamReader_takeFaultOfBlock ∈ tpG := tpG_mem (i := 512) (by decide +kernel) rfl
theorem wd_221 : Cond.selects R_StreamReader y_StreamReader_takeFaultOfBlock y_StreamReader_takeFaultOfBlock ∈ tpG := tpG_mem (i := 22) (by decide +kernel) rfl
theorem wd_222 : Cond.code y_StreamReader_checkMark c_StreamReader_checkMark 5 none ∈ tpG := tpG_mem (i := 505) (by decide +kernel) rfl
theorem wd_223 : Cond.methodLink R_StreamReader 51 y_StreamReader_checkMark ∈ tpG := tpG_mem (i := 502) (by decide +kernel) rfl
theorem wd_224 : Cond.instanceMethod y_StreamReader_checkMark ∈ tpG := tpG_mem (i := 504) (by decide +kernel) rfl
theorem wd_225 : Cond.selects R_StreamReader y_StreamReader_checkMark y_StreamReader_checkMark ∈ tpG := tpG_mem (i := 21) (by decide +kernel) rfl
theorem wd_226 : Cond.fieldLink R_TP 19 "TagPress" "draft" "LTagPress$Row;" ∈ tpG := tpG_mem (i := 223) (by decide +kernel) rfl
theorem wd_227 : Cond.methodLink R_TP 122 y_Row_fits ∈ tpG := tpG_mem (i := 381) (by decide +kernel) rfl
theorem wd_228 : Cond.fieldLink R_TP 16 "TagPress" "out" "LTagPress$Row;" ∈ tpG := tpG_mem (i := 222) (by decide +kernel) rfl
theorem wd_229 : Cond.code y_Row_become c_Row_become 2 none ∈ tpG := tpG_mem (i := 285) (by decide +kernel) rfl
theorem wd_230 : Cond.methodLink R_TP 85 y_Row_become ∈ tpG := tpG_mem (i := 282) (by decide +kernel) rfl
theorem wd_231 : Cond.instanceMethod y_Row_become ∈ tpG := tpG_mem (i := 283) (by decide +kernel) rfl
theorem wd_232 : Cond.selects R_Row y_Row_become y_Row_become ∈ tpG := tpG_mem (i := 284) (by decide +kernel) rfl
theorem wd_233 : Cond.fieldLink R_TP 10 "TagPress" "in" "LTagPress$Row;" ∈ tpG := tpG_mem (i := 221) (by decide +kernel) rfl
theorem wd_234 : Cond.fieldLink R_TP 67 "TagPress" "latestPlace" "I" ∈ tpG := tpG_mem (i := 229) (by decide +kernel) rfl
theorem wd_235 : Cond.methodLink R_TP 74 y_Row_put ∈ tpG := tpG_mem (i := 253) (by decide +kernel) rfl
theorem wd_236 : Cond.methodLink R_TP 78 y_Row_putBack ∈ tpG := tpG_mem (i := 261) (by decide +kernel) rfl
theorem wd_237 : Cond.methodLink R_TP 82 y_Row_shorten ∈ tpG := tpG_mem (i := 274) (by decide +kernel) rfl
theorem wd_238 : Cond.code y_TP_isNoWay c_TP_isNoWay 1 (some .boolean) ∈ tpG := tpG_mem (i := 299) (by decide +kernel) rfl
theorem wd_239 : Cond.initialized R_TP ∈ tpG := tpG_mem (i := 52) (by decide +kernel) rfl
theorem wd_240 : Cond.methodLink R_TP 88 y_TP_isNoWay ∈ tpG := tpG_mem (i := 297) (by decide +kernel) rfl
theorem wd_241 : Cond.static y_TP_isNoWay ∈ tpG := tpG_mem (i := 298) (by decide +kernel) rfl
theorem wd_242 : Cond.fieldLink R_TP 27 "TagPress" "matches" "LTagPress$Matches;" ∈ tpG := tpG_mem (i := 224) (by decide +kernel) rfl
theorem wd_243 : Cond.code y_Matches_index c_Matches_index 3 none ∈ tpG := tpG_mem (i := 303) (by decide +kernel) rfl
theorem wd_244 : Cond.methodLink R_TP 92 y_Matches_index ∈ tpG := tpG_mem (i := 300) (by decide +kernel) rfl
theorem wd_245 : Cond.instanceMethod y_Matches_index ∈ tpG := tpG_mem (i := 301) (by decide +kernel) rfl
theorem wd_246 : Cond.selects R_Matches y_Matches_index y_Matches_index ∈ tpG := tpG_mem (i := 302) (by decide +kernel) rfl
theorem wd_247 : Cond.fieldLink R_TP 36 "TagPress" "blockWriter" "LTagPress$BlockWriter;" ∈ tpG := tpG_mem (i := 225) (by decide +kernel) rfl
theorem wd_248 : Cond.methodLink R_TP 95 y_BlockWriter_putBlock ∈ tpG := tpG_mem (i := 316) (by decide +kernel) rfl
theorem wd_249 : Cond.code y_TP_endWriting c_TP_endWriting 1 (some .int) ∈ tpG := tpG_mem (i := 380) (by decide +kernel) rfl
theorem wd_250 : Cond.methodLink R_TP 99 y_TP_endWriting ∈ tpG := tpG_mem (i := 377) (by decide +kernel) rfl
theorem wd_251 : Cond.instanceMethod y_TP_endWriting ∈ tpG := tpG_mem (i := 379) (by decide +kernel) rfl
theorem wd_252 : Cond.selects R_TP y_TP_endWriting y_TP_endWriting ∈ tpG := tpG_mem (i := 9) (by decide +kernel) rfl
theorem wd_253 : Cond.code y_TP_isNoMost c_TP_isNoMost 1 (some .boolean) ∈ tpG := tpG_mem (i := 388) (by decide +kernel) rfl
theorem wd_254 : Cond.methodLink R_TP 103 y_TP_isNoMost ∈ tpG := tpG_mem (i := 386) (by decide +kernel) rfl
theorem wd_255 : Cond.static y_TP_isNoMost ∈ tpG := tpG_mem (i := 387) (by decide +kernel) rfl
theorem wd_256 : Cond.fieldLink R_TP 54 "TagPress" "blockReader" "LTagPress$BlockReader;" ∈ tpG := tpG_mem (i := 227) (by decide +kernel) rfl
theorem wd_257 : Cond.methodLink R_TP 106 y_BlockReader_readBlock ∈ tpG := tpG_mem (i := 389) (by decide +kernel) rfl
theorem wd_258 : Cond.code y_TP_endReading c_TP_endReading 3 (some .int) ∈ tpG := tpG_mem (i := 432) (by decide +kernel) rfl
theorem wd_259 : Cond.methodLink R_TP 115 y_TP_endReading ∈ tpG := tpG_mem (i := 429) (by decide +kernel) rfl
theorem wd_260 : Cond.instanceMethod y_TP_endReading ∈ tpG := tpG_mem (i := 431) (by decide +kernel) rfl
theorem wd_261 : Cond.selects R_TP y_TP_endReading y_TP_endReading ∈ tpG := tpG_mem (i := 18) (by decide +kernel) rfl
theorem wd_262 : Cond.fieldLink R_TP 45 "TagPress" "streamWriter" "LTagPress$StreamWriter;" ∈ tpG := tpG_mem (i := 226) (by decide +kernel) rfl
theorem wd_263 : Cond.code y_StreamWriter_putMark c_StreamWriter_putMark 5 none ∈ tpG := tpG_mem (i := 440) (by decide +kernel) rfl
theorem wd_264 : Cond.initialized R_StreamWriter ∈ tpG := tpG_mem (i := 56) (by decide +kernel) rfl
theorem wd_265 : Cond.methodLink R_TP 119 y_StreamWriter_putMark ∈ tpG := tpG_mem (i := 437) (by decide +kernel) rfl
theorem wd_266 : Cond.instanceMethod y_StreamWriter_putMark ∈ tpG := tpG_mem (i := 438) (by decide +kernel) rfl
theorem wd_267 : Cond.selects R_StreamWriter y_StreamWriter_putMark y_StreamWriter_putMark ∈ tpG := tpG_mem (i := 439) (by decide +kernel) rfl
theorem wd_268 : Cond.methodLink R_TP 126 Lib.Math.min.name ∈ tpG := tpG_mem (i := 445) (by decide +kernel) rfl
theorem wd_269 : Cond.code y_StreamWriter_putData c_StreamWriter_putData 6 none ∈ tpG := tpG_mem (i := 449) (by decide +kernel) rfl
theorem wd_270 : Cond.methodLink R_TP 131 y_StreamWriter_putData ∈ tpG := tpG_mem (i := 446) (by decide +kernel) rfl
theorem wd_271 : Cond.instanceMethod y_StreamWriter_putData ∈ tpG := tpG_mem (i := 447) (by decide +kernel) rfl
theorem wd_272 : Cond.selects R_StreamWriter y_StreamWriter_putData y_StreamWriter_putData ∈ tpG := tpG_mem (i := 448) (by decide +kernel) rfl
theorem wd_273 : Cond.code y_StreamWriter_putSpare c_StreamWriter_putSpare 3 none ∈ tpG := tpG_mem (i := 474) (by decide +kernel) rfl
theorem wd_274 : Cond.methodLink R_TP 134 y_StreamWriter_putSpare ∈ tpG := tpG_mem (i := 471) (by decide +kernel) rfl
theorem wd_275 : Cond.instanceMethod y_StreamWriter_putSpare ∈ tpG := tpG_mem (i := 472) (by decide +kernel) rfl
theorem wd_276 : Cond.selects R_StreamWriter y_StreamWriter_putSpare y_StreamWriter_putSpare ∈ tpG := tpG_mem (i := 473) (by decide +kernel) rfl
theorem wd_277 : Cond.fieldLink R_TP 63 "TagPress" "streamReader" "LTagPress$StreamReader;" ∈ tpG := tpG_mem (i := 228) (by decide +kernel) rfl
theorem wd_278 : Cond.code y_StreamReader_begin c_StreamReader_begin 2 none ∈ tpG := tpG_mem (i := 482) (by decide +kernel) rfl
theorem wd_279 : Cond.methodLink R_TP 137 y_StreamReader_begin ∈ tpG := tpG_mem (i := 479) (by decide +kernel) rfl
theorem wd_280 : Cond.instanceMethod y_StreamReader_begin ∈ tpG := tpG_mem (i := 480) (by decide +kernel) rfl
theorem wd_281 : Cond.selects R_StreamReader y_StreamReader_begin y_StreamReader_begin ∈ tpG := tpG_mem (i := 481) (by decide +kernel) rfl
theorem wd_282 : Cond.code y_StreamReader_hasMore c_StreamReader_hasMore 1 (some .boolean) ∈ tpG := tpG_mem (i := 486) (by decide +kernel) rfl
theorem wd_283 : Cond.methodLink R_TP 140 y_StreamReader_hasMore ∈ tpG := tpG_mem (i := 483) (by decide +kernel) rfl
theorem wd_284 : Cond.instanceMethod y_StreamReader_hasMore ∈ tpG := tpG_mem (i := 484) (by decide +kernel) rfl
theorem wd_285 : Cond.selects R_StreamReader y_StreamReader_hasMore y_StreamReader_hasMore ∈ tpG := tpG_mem (i := 485) (by decide +kernel) rfl
theorem wd_286 : Cond.code y_StreamReader_readChunk c_StreamReader_readChunk 6 none ∈ tpG := tpG_mem (i := 490) (by decide +kernel) rfl
theorem wd_287 : Cond.methodLink R_TP 143 y_StreamReader_readChunk ∈ tpG := tpG_mem (i := 487) (by decide +kernel) rfl
theorem wd_288 : Cond.instanceMethod y_StreamReader_readChunk ∈ tpG := tpG_mem (i := 488) (by decide +kernel) rfl
theorem wd_289 : Cond.selects R_StreamReader y_StreamReader_readChunk y_StreamReader_readChunk ∈ tpG := tpG_mem (i := 489) (by decide +kernel) rfl
theorem wd_290 : Cond.methodLink R_TP 148 y_Sums_sumOf ∈ tpG := tpG_mem (i := 532) (by decide +kernel) rfl
theorem wd_291 : Cond.methodLink R_TP 154 y_Row_at ∈ tpG := tpG_mem (i := 541) (by decide +kernel) rfl
theorem wd_292 : Cond.methodLink R_Row 3 objectInit ∈ tpG := tpG_mem (i := 78) (by decide +kernel) rfl
theorem wd_293 : Cond.instanceMethod objectInit ∈ tpG := tpG_mem (i := 71) (by decide +kernel) rfl
theorem wd_294 : Cond.code objectInit ⟨#[0xb1]⟩ 1 none ∈ tpG := tpG_mem (i := 72) (by decide +kernel) rfl
theorem wd_295 : Cond.arrayClass .byte ∈ tpG := tpG_mem (i := 92) (by decide +kernel) rfl
theorem wd_296 : Cond.methodLink R_Matches 5 objectInit ∈ tpG := tpG_mem (i := 98) (by decide +kernel) rfl
theorem wd_297 : Cond.arrayClass .int ∈ tpG := tpG_mem (i := 123) (by decide +kernel) rfl
theorem wd_298 : Cond.methodLink R_BlockWriter 1 objectInit ∈ tpG := tpG_mem (i := 129) (by decide +kernel) rfl
theorem wd_299 : Cond.methodLink R_StreamWriter 1 objectInit ∈ tpG := tpG_mem (i := 145) (by decide +kernel) rfl
theorem wd_300 : Cond.methodLink R_BlockReader 3 objectInit ∈ tpG := tpG_mem (i := 161) (by decide +kernel) rfl
theorem wd_301 : Cond.methodLink R_StreamReader 1 objectInit ∈ tpG := tpG_mem (i := 196) (by decide +kernel) rfl
theorem wd_302 : Cond.methodLink R_TP 1 objectInit ∈ tpG := tpG_mem (i := 70) (by decide +kernel) rfl
theorem wd_303 : Cond.classLink R_TP 7 R_Row ∈ tpG := tpG_mem (i := 73) (by decide +kernel) rfl
theorem wd_304 : Cond.instantiable R_Row 2 ∈ tpG := tpG_mem (i := 74) (by decide +kernel) rfl
theorem wd_305 : Cond.code y_Row_init c_Row_init 1 none ∈ tpG := tpG_mem (i := 77) (by decide +kernel) rfl
theorem wd_306 : Cond.instanceMethod y_Row_init ∈ tpG := tpG_mem (i := 76) (by decide +kernel) rfl
theorem wd_307 : Cond.classLink R_TP 22 R_Matches ∈ tpG := tpG_mem (i := 93) (by decide +kernel) rfl
theorem wd_308 : Cond.instantiable R_Matches 7 ∈ tpG := tpG_mem (i := 94) (by decide +kernel) rfl
theorem wd_309 : Cond.code y_Matches_init c_Matches_init 2 none ∈ tpG := tpG_mem (i := 97) (by decide +kernel) rfl
theorem wd_310 : Cond.methodLink R_TP 24 y_Matches_init ∈ tpG := tpG_mem (i := 95) (by decide +kernel) rfl
theorem wd_311 : Cond.instanceMethod y_Matches_init ∈ tpG := tpG_mem (i := 96) (by decide +kernel) rfl
theorem wd_312 : Cond.classLink R_TP 31 R_BlockWriter ∈ tpG := tpG_mem (i := 124) (by decide +kernel) rfl
theorem wd_313 : Cond.instantiable R_BlockWriter 3 ∈ tpG := tpG_mem (i := 125) (by decide +kernel) rfl
theorem wd_314 : Cond.code y_BlockWriter_init c_BlockWriter_init 4 none ∈ tpG := tpG_mem (i := 128) (by decide +kernel) rfl
theorem wd_315 : Cond.methodLink R_TP 33 y_BlockWriter_init ∈ tpG := tpG_mem (i := 126) (by decide +kernel) rfl
theorem wd_316 : Cond.instanceMethod y_BlockWriter_init ∈ tpG := tpG_mem (i := 127) (by decide +kernel) rfl
theorem wd_317 : Cond.classLink R_TP 40 R_StreamWriter ∈ tpG := tpG_mem (i := 140) (by decide +kernel) rfl
theorem wd_318 : Cond.instantiable R_StreamWriter 3 ∈ tpG := tpG_mem (i := 141) (by decide +kernel) rfl
theorem wd_319 : Cond.code y_StreamWriter_init c_StreamWriter_init 4 none ∈ tpG := tpG_mem (i := 144) (by decide +kernel) rfl
theorem wd_320 : Cond.methodLink R_TP 42 y_StreamWriter_init ∈ tpG := tpG_mem (i := 142) (by decide +kernel) rfl
theorem wd_321 : Cond.instanceMethod y_StreamWriter_init ∈ tpG := tpG_mem (i := 143) (by decide +kernel) rfl
theorem wd_322 : Cond.classLink R_TP 49 R_BlockReader ∈ tpG := tpG_mem (i := 156) (by decide +kernel) rfl
theorem wd_323 : Cond.instantiable R_BlockReader 8 ∈ tpG := tpG_mem (i := 157) (by decide +kernel) rfl
theorem wd_324 : Cond.code y_BlockReader_init c_BlockReader_init 3 none ∈ tpG := tpG_mem (i := 160) (by decide +kernel) rfl
theorem wd_325 : Cond.methodLink R_TP 51 y_BlockReader_init ∈ tpG := tpG_mem (i := 158) (by decide +kernel) rfl
theorem wd_326 : Cond.instanceMethod y_BlockReader_init ∈ tpG := tpG_mem (i := 159) (by decide +kernel) rfl
theorem wd_327 : Cond.classLink R_TP 58 R_StreamReader ∈ tpG := tpG_mem (i := 191) (by decide +kernel) rfl
theorem wd_328 : Cond.instantiable R_StreamReader 7 ∈ tpG := tpG_mem (i := 192) (by decide +kernel) rfl
theorem wd_329 : Cond.code y_StreamReader_init c_StreamReader_init 4 none ∈ tpG := tpG_mem (i := 195) (by decide +kernel) rfl
theorem wd_330 : Cond.methodLink R_TP 60 y_StreamReader_init ∈ tpG := tpG_mem (i := 193) (by decide +kernel) rfl
theorem wd_331 : Cond.instanceMethod y_StreamReader_init ∈ tpG := tpG_mem (i := 194) (by decide +kernel) rfl
theorem wd_332 : Cond.fieldLink R_Mo 26 "TagPressModel" "inLong" "I" ∈ tpG := tpG_mem (i := 549) (by decide +kernel) rfl
theorem wd_333 : Cond.fieldLink R_Mo 7 "TagPressModel" "in" "[B" ∈ tpG := tpG_mem (i := 548) (by decide +kernel) rfl
theorem wd_334 : Cond.constantLong R_Mo 30 (10000) ∈ tpG := tpG_mem (i := 605) (by decide +kernel) rfl
theorem wd_335 : Cond.fieldLink R_Mo 32 "TagPressModel" "outLong" "I" ∈ tpG := tpG_mem (i := 551) (by decide +kernel) rfl
theorem wd_336 : Cond.fieldLink R_Mo 13 "TagPressModel" "out" "[B" ∈ tpG := tpG_mem (i := 550) (by decide +kernel) rfl
theorem wd_337 : Cond.fieldLink R_Mo 35 "TagPressModel" "madeLong" "I" ∈ tpG := tpG_mem (i := 553) (by decide +kernel) rfl
theorem wd_338 : Cond.fieldLink R_Mo 16 "TagPressModel" "made" "[B" ∈ tpG := tpG_mem (i := 552) (by decide +kernel) rfl
theorem wd_339 : Cond.code y_Mo_put c_Mo_put 2 none ∈ tpG := tpG_mem (i := 625) (by decide +kernel) rfl
theorem wd_340 : Cond.initialized R_Mo ∈ tpG := tpG_mem (i := 59) (by decide +kernel) rfl
theorem wd_341 : Cond.methodLink R_Mo 38 y_Mo_put ∈ tpG := tpG_mem (i := 622) (by decide +kernel) rfl
theorem wd_342 : Cond.instanceMethod y_Mo_put ∈ tpG := tpG_mem (i := 624) (by decide +kernel) rfl
theorem wd_343 : Cond.selects R_Mo y_Mo_put y_Mo_put ∈ tpG := tpG_mem (i := 26) (by decide +kernel) rfl
theorem wd_344 : Cond.fieldLink R_Mo 42 "TagPressModel" "foundLong" "I" ∈ tpG := tpG_mem (i := 558) (by decide +kernel) rfl
theorem wd_345 : Cond.code y_Mo_alike c_Mo_alike 5 (some .int) ∈ tpG := tpG_mem (i := 637) (by decide +kernel) rfl
theorem wd_346 : Cond.methodLink R_Mo 45 y_Mo_alike ∈ tpG := tpG_mem (i := 634) (by decide +kernel) rfl
theorem wd_347 : Cond.instanceMethod y_Mo_alike ∈ tpG := tpG_mem (i := 636) (by decide +kernel) rfl
theorem wd_348 : Cond.selects R_Mo y_Mo_alike y_Mo_alike ∈ tpG := tpG_mem (i := 29) (by decide +kernel) rfl
theorem wd_349 : Cond.fieldLink R_Mo 49 "TagPressModel" "foundAt" "I" ∈ tpG := tpG_mem (i := 557) (by decide +kernel) rfl
theorem wd_350 : Cond.code y_Mo_nearest c_Mo_nearest 7 none ∈ tpG := tpG_mem (i := 633) (by decide +kernel) rfl
theorem wd_351 : Cond.methodLink R_Mo 52 y_Mo_nearest ∈ tpG := tpG_mem (i := 630) (by decide +kernel) rfl
theorem wd_352 : Cond.instanceMethod y_Mo_nearest ∈ tpG := tpG_mem (i := 632) (by decide +kernel) rfl
theorem wd_353 : Cond.selects R_Mo y_Mo_nearest y_Mo_nearest ∈ tpG := tpG_mem (i := 28) (by decide +kernel) rfl
theorem wd_354 : Cond.code y_Mo_longest c_Mo_longest 6 none ∈ tpG := tpG_mem (i := 641) (by decide +kernel) rfl
theorem wd_355 : Cond.methodLink R_Mo 56 y_Mo_longest ∈ tpG := tpG_mem (i := 638) (by decide +kernel) rfl
theorem wd_356 : Cond.instanceMethod y_Mo_longest ∈ tpG := tpG_mem (i := 640) (by decide +kernel) rfl
theorem wd_357 : Cond.selects R_Mo y_Mo_longest y_Mo_longest ∈ tpG := tpG_mem (i := 30) (by decide +kernel) rfl
theorem wd_358 : Cond.fieldLink R_Mo 23 "TagPressModel" "far" "[I" ∈ tpG := tpG_mem (i := 555) (by decide +kernel) rfl
theorem wd_359 : Cond.fieldLink R_Mo 19 "TagPressModel" "near" "[I" ∈ tpG := tpG_mem (i := 554) (by decide +kernel) rfl
theorem wd_360 : Cond.code y_Mo_bytesFor c_Mo_bytesFor 2 (some .int) ∈ tpG := tpG_mem (i := 666) (by decide +kernel) rfl
theorem wd_361 : Cond.methodLink R_Mo 60 y_Mo_bytesFor ∈ tpG := tpG_mem (i := 664) (by decide +kernel) rfl
theorem wd_362 : Cond.static y_Mo_bytesFor ∈ tpG := tpG_mem (i := 665) (by decide +kernel) rfl
theorem wd_363 : Cond.code y_Mo_fewest c_Mo_fewest 3 (some .int) ∈ tpG := tpG_mem (i := 670) (by decide +kernel) rfl
theorem wd_364 : Cond.methodLink R_Mo 64 y_Mo_fewest ∈ tpG := tpG_mem (i := 667) (by decide +kernel) rfl
theorem wd_365 : Cond.instanceMethod y_Mo_fewest ∈ tpG := tpG_mem (i := 669) (by decide +kernel) rfl
theorem wd_366 : Cond.selects R_Mo y_Mo_fewest y_Mo_fewest ∈ tpG := tpG_mem (i := 36) (by decide +kernel) rfl
theorem wd_367 : Cond.fieldLink R_Mo 67 "TagPressModel" "known" "I" ∈ tpG := tpG_mem (i := 556) (by decide +kernel) rfl
theorem wd_368 : Cond.constant R_Mo 70 (2147483647) ∈ tpG := tpG_mem (i := 659) (by decide +kernel) rfl
theorem wd_369 : Cond.code y_Mo_tried c_Mo_tried 4 (some .int) ∈ tpG := tpG_mem (i := 663) (by decide +kernel) rfl
theorem wd_370 : Cond.methodLink R_Mo 71 y_Mo_tried ∈ tpG := tpG_mem (i := 660) (by decide +kernel) rfl
theorem wd_371 : Cond.instanceMethod y_Mo_tried ∈ tpG := tpG_mem (i := 662) (by decide +kernel) rfl
theorem wd_372 : Cond.selects R_Mo y_Mo_tried y_Mo_tried ∈ tpG := tpG_mem (i := 35) (by decide +kernel) rfl
theorem wd_373 : Cond.code y_Mo_know c_Mo_know 4 none ∈ tpG := tpG_mem (i := 658) (by decide +kernel) rfl
theorem wd_374 : Cond.methodLink R_Mo 75 y_Mo_know ∈ tpG := tpG_mem (i := 655) (by decide +kernel) rfl
theorem wd_375 : Cond.instanceMethod y_Mo_know ∈ tpG := tpG_mem (i := 657) (by decide +kernel) rfl
theorem wd_376 : Cond.selects R_Mo y_Mo_know y_Mo_know ∈ tpG := tpG_mem (i := 34) (by decide +kernel) rfl
theorem wd_377 : Cond.code y_Mo_putNumber c_Mo_putNumber 4 none ∈ tpG := tpG_mem (i := 650) (by decide +kernel) rfl
theorem wd_378 : Cond.methodLink R_Mo 78 y_Mo_putNumber ∈ tpG := tpG_mem (i := 647) (by decide +kernel) rfl
theorem wd_379 : Cond.instanceMethod y_Mo_putNumber ∈ tpG := tpG_mem (i := 649) (by decide +kernel) rfl
theorem wd_380 : Cond.selects R_Mo y_Mo_putNumber y_Mo_putNumber ∈ tpG := tpG_mem (i := 32) (by decide +kernel) rfl
theorem wd_381 : Cond.constant R_Mo 82 (65536) ∈ tpG := tpG_mem (i := 646) (by decide +kernel) rfl
theorem wd_382 : Cond.code y_Mo_putLiterals c_Mo_putLiterals 6 none ∈ tpG := tpG_mem (i := 645) (by decide +kernel) rfl
theorem wd_383 : Cond.methodLink R_Mo 86 y_Mo_putLiterals ∈ tpG := tpG_mem (i := 642) (by decide +kernel) rfl
theorem wd_384 : Cond.instanceMethod y_Mo_putLiterals ∈ tpG := tpG_mem (i := 644) (by decide +kernel) rfl
theorem wd_385 : Cond.selects R_Mo y_Mo_putLiterals y_Mo_putLiterals ∈ tpG := tpG_mem (i := 31) (by decide +kernel) rfl
theorem wd_386 : Cond.code y_Mo_match c_Mo_match 6 none ∈ tpG := tpG_mem (i := 629) (by decide +kernel) rfl
theorem wd_387 : Cond.methodLink R_Mo 83 y_Mo_match ∈ tpG := tpG_mem (i := 626) (by decide +kernel) rfl
theorem wd_388 : Cond.instanceMethod y_Mo_match ∈ tpG := tpG_mem (i := 628) (by decide +kernel) rfl
theorem wd_389 : Cond.selects R_Mo y_Mo_match y_Mo_match ∈ tpG := tpG_mem (i := 27) (by decide +kernel) rfl
theorem wd_390 : Cond.code y_Mo_putCopies c_Mo_putCopies 6 none ∈ tpG := tpG_mem (i := 654) (by decide +kernel) rfl
theorem wd_391 : Cond.methodLink R_Mo 89 y_Mo_putCopies ∈ tpG := tpG_mem (i := 651) (by decide +kernel) rfl
theorem wd_392 : Cond.instanceMethod y_Mo_putCopies ∈ tpG := tpG_mem (i := 653) (by decide +kernel) rfl
theorem wd_393 : Cond.selects R_Mo y_Mo_putCopies y_Mo_putCopies ∈ tpG := tpG_mem (i := 33) (by decide +kernel) rfl
theorem wd_394 : Cond.code y_Mo_putBlock c_Mo_putBlock 8 none ∈ tpG := tpG_mem (i := 621) (by decide +kernel) rfl
theorem wd_395 : Cond.methodLink R_Mo 92 y_Mo_putBlock ∈ tpG := tpG_mem (i := 618) (by decide +kernel) rfl
theorem wd_396 : Cond.instanceMethod y_Mo_putBlock ∈ tpG := tpG_mem (i := 620) (by decide +kernel) rfl
theorem wd_397 : Cond.selects R_Mo y_Mo_putBlock y_Mo_putBlock ∈ tpG := tpG_mem (i := 25) (by decide +kernel) rfl
theorem wd_398 : Cond.code y_Mo_settle c_Mo_settle 2 (some .int) ∈ tpG := tpG_mem (i := 674) (by decide +kernel) rfl
theorem wd_399 : Cond.methodLink R_Mo 95 y_Mo_settle ∈ tpG := tpG_mem (i := 671) (by decide +kernel) rfl
theorem wd_400 : Cond.instanceMethod y_Mo_settle ∈ tpG := tpG_mem (i := 673) (by decide +kernel) rfl
theorem wd_401 : Cond.selects R_Mo y_Mo_settle y_Mo_settle ∈ tpG := tpG_mem (i := 37) (by decide +kernel) rfl
theorem wd_402 : Cond.fieldLink R_Mo 99 "TagPressModel" "fault" "I" ∈ tpG := tpG_mem (i := 562) (by decide +kernel) rfl
theorem wd_403 : Cond.fieldLink R_Mo 102 "TagPressModel" "faultAt" "I" ∈ tpG := tpG_mem (i := 563) (by decide +kernel) rfl
theorem wd_404 : Cond.constantLong R_Mo 105 (-1) ∈ tpG := tpG_mem (i := 695) (by decide +kernel) rfl
theorem wd_405 : Cond.fieldLink R_Mo 107 "TagPressModel" "at" "I" ∈ tpG := tpG_mem (i := 560) (by decide +kernel) rfl
theorem wd_406 : Cond.fieldLink R_Mo 110 "TagPressModel" "end" "I" ∈ tpG := tpG_mem (i := 561) (by decide +kernel) rfl
theorem wd_407 : Cond.constantLong R_Mo 117 (255) ∈ tpG := tpG_mem (i := 700) (by decide +kernel) rfl
theorem wd_408 : Cond.code y_Mo_fails c_Mo_fails 3 (some .boolean) ∈ tpG := tpG_mem (i := 699) (by decide +kernel) rfl
theorem wd_409 : Cond.methodLink R_Mo 113 y_Mo_fails ∈ tpG := tpG_mem (i := 696) (by decide +kernel) rfl
theorem wd_410 : Cond.instanceMethod y_Mo_fails ∈ tpG := tpG_mem (i := 698) (by decide +kernel) rfl
theorem wd_411 : Cond.selects R_Mo y_Mo_fails y_Mo_fails ∈ tpG := tpG_mem (i := 42) (by decide +kernel) rfl
theorem wd_412 : Cond.code y_Mo_take c_Mo_take 5 (some .long) ∈ tpG := tpG_mem (i := 694) (by decide +kernel) rfl
theorem wd_413 : Cond.methodLink R_Mo 119 y_Mo_take ∈ tpG := tpG_mem (i := 691) (by decide +kernel) rfl
theorem wd_414 : Cond.instanceMethod y_Mo_take ∈ tpG := tpG_mem (i := 693) (by decide +kernel) rfl
theorem wd_415 : Cond.selects R_Mo y_Mo_take y_Mo_take ∈ tpG := tpG_mem (i := 41) (by decide +kernel) rfl
theorem wd_416 : Cond.constantLong R_Mo 123 (15) ∈ tpG := tpG_mem (i := 701) (by decide +kernel) rfl
theorem wd_417 : Cond.constantLong R_Mo 125 (127) ∈ tpG := tpG_mem (i := 702) (by decide +kernel) rfl
theorem wd_418 : Cond.constantLong R_Mo 127 (128) ∈ tpG := tpG_mem (i := 703) (by decide +kernel) rfl
theorem wd_419 : Cond.constantLong R_Mo 129 (256) ∈ tpG := tpG_mem (i := 712) (by decide +kernel) rfl
theorem wd_420 : Cond.code y_Mo_fitting c_Mo_fitting 10 (some .boolean) ∈ tpG := tpG_mem (i := 716) (by decide +kernel) rfl
theorem wd_421 : Cond.methodLink R_Mo 131 y_Mo_fitting ∈ tpG := tpG_mem (i := 713) (by decide +kernel) rfl
theorem wd_422 : Cond.instanceMethod y_Mo_fitting ∈ tpG := tpG_mem (i := 715) (by decide +kernel) rfl
theorem wd_423 : Cond.selects R_Mo y_Mo_fitting y_Mo_fitting ∈ tpG := tpG_mem (i := 45) (by decide +kernel) rfl
theorem wd_424 : Cond.code y_Mo_takeLength c_Mo_takeLength 8 (some .long) ∈ tpG := tpG_mem (i := 690) (by decide +kernel) rfl
theorem wd_425 : Cond.methodLink R_Mo 135 y_Mo_takeLength ∈ tpG := tpG_mem (i := 687) (by decide +kernel) rfl
theorem wd_426 : Cond.instanceMethod y_Mo_takeLength ∈ tpG := tpG_mem (i := 689) (by decide +kernel) rfl
theorem wd_427 : Cond.selects R_Mo y_Mo_takeLength y_Mo_takeLength ∈ tpG := tpG_mem (i := 40) (by decide +kernel) rfl
theorem wd_428 : Cond.code y_Mo_copy c_Mo_copy 12 none ∈ tpG := tpG_mem (i := 711) (by decide +kernel) rfl
theorem wd_429 : Cond.methodLink R_Mo 142 y_Mo_copy ∈ tpG := tpG_mem (i := 708) (by decide +kernel) rfl
theorem wd_430 : Cond.instanceMethod y_Mo_copy ∈ tpG := tpG_mem (i := 710) (by decide +kernel) rfl
theorem wd_431 : Cond.selects R_Mo y_Mo_copy y_Mo_copy ∈ tpG := tpG_mem (i := 44) (by decide +kernel) rfl
theorem wd_432 : Cond.code y_Mo_literals c_Mo_literals 12 none ∈ tpG := tpG_mem (i := 707) (by decide +kernel) rfl
theorem wd_433 : Cond.methodLink R_Mo 138 y_Mo_literals ∈ tpG := tpG_mem (i := 704) (by decide +kernel) rfl
theorem wd_434 : Cond.instanceMethod y_Mo_literals ∈ tpG := tpG_mem (i := 706) (by decide +kernel) rfl
theorem wd_435 : Cond.selects R_Mo y_Mo_literals y_Mo_literals ∈ tpG := tpG_mem (i := 43) (by decide +kernel) rfl
theorem wd_436 : Cond.fieldLink R_Mo 146 "TagPressModel" "told" "I" ∈ tpG := tpG_mem (i := 559) (by decide +kernel) rfl
theorem wd_437 : Cond.code y_Mo_beginReading c_Mo_beginReading 1 none ∈ tpG := tpG_mem (i := 682) (by decide +kernel) rfl
theorem wd_438 : Cond.methodLink R_Mo 149 y_Mo_beginReading ∈ tpG := tpG_mem (i := 679) (by decide +kernel) rfl
theorem wd_439 : Cond.instanceMethod y_Mo_beginReading ∈ tpG := tpG_mem (i := 681) (by decide +kernel) rfl
theorem wd_440 : Cond.selects R_Mo y_Mo_beginReading y_Mo_beginReading ∈ tpG := tpG_mem (i := 38) (by decide +kernel) rfl
theorem wd_441 : Cond.code y_Mo_takeBlock c_Mo_takeBlock 7 none ∈ tpG := tpG_mem (i := 686) (by decide +kernel) rfl
theorem wd_442 : Cond.methodLink R_Mo 152 y_Mo_takeBlock ∈ tpG := tpG_mem (i := 683) (by decide +kernel) rfl
theorem wd_443 : Cond.instanceMethod y_Mo_takeBlock ∈ tpG := tpG_mem (i := 685) (by decide +kernel) rfl
theorem wd_444 : Cond.selects R_Mo y_Mo_takeBlock y_Mo_takeBlock ∈ tpG := tpG_mem (i := 39) (by decide +kernel) rfl
theorem wd_445 : Cond.code y_Mo_endReading c_Mo_endReading 1 (some .int) ∈ tpG := tpG_mem (i := 720) (by decide +kernel) rfl
theorem wd_446 : Cond.methodLink R_Mo 155 y_Mo_endReading ∈ tpG := tpG_mem (i := 717) (by decide +kernel) rfl
theorem wd_447 : Cond.instanceMethod y_Mo_endReading ∈ tpG := tpG_mem (i := 719) (by decide +kernel) rfl
theorem wd_448 : Cond.selects R_Mo y_Mo_endReading y_Mo_endReading ∈ tpG := tpG_mem (i := 46) (by decide +kernel) rfl
theorem wd_449 : Cond.constant R_Mo 159 (-1568478504) ∈ tpG := tpG_mem (i := 736) (by decide +kernel) rfl
theorem wd_450 : Cond.constant R_Mo 158 (-2097792136) ∈ tpG := tpG_mem (i := 735) (by decide +kernel) rfl
theorem wd_451 : Cond.code y_Mo_sumOf c_Mo_sumOf 7 (some .int) ∈ tpG := tpG_mem (i := 734) (by decide +kernel) rfl
theorem wd_452 : Cond.methodLink R_Mo 160 y_Mo_sumOf ∈ tpG := tpG_mem (i := 732) (by decide +kernel) rfl
theorem wd_453 : Cond.static y_Mo_sumOf ∈ tpG := tpG_mem (i := 733) (by decide +kernel) rfl
theorem wd_454 : Cond.code y_Mo_mark c_Mo_mark 1 (some .int) ∈ tpG := tpG_mem (i := 727) (by decide +kernel) rfl
theorem wd_455 : Cond.methodLink R_Mo 164 y_Mo_mark ∈ tpG := tpG_mem (i := 725) (by decide +kernel) rfl
theorem wd_456 : Cond.static y_Mo_mark ∈ tpG := tpG_mem (i := 726) (by decide +kernel) rfl
theorem wd_457 : Cond.code y_Mo_putRow c_Mo_putRow 8 none ∈ tpG := tpG_mem (i := 731) (by decide +kernel) rfl
theorem wd_458 : Cond.methodLink R_Mo 168 y_Mo_putRow ∈ tpG := tpG_mem (i := 728) (by decide +kernel) rfl
theorem wd_459 : Cond.instanceMethod y_Mo_putRow ∈ tpG := tpG_mem (i := 730) (by decide +kernel) rfl
theorem wd_460 : Cond.selects R_Mo y_Mo_putRow y_Mo_putRow ∈ tpG := tpG_mem (i := 47) (by decide +kernel) rfl
theorem wd_461 : Cond.code y_Mo_byteOf c_Mo_byteOf 2 (some .int) ∈ tpG := tpG_mem (i := 744) (by decide +kernel) rfl
theorem wd_462 : Cond.methodLink R_Mo 171 y_Mo_byteOf ∈ tpG := tpG_mem (i := 741) (by decide +kernel) rfl
theorem wd_463 : Cond.instanceMethod y_Mo_byteOf ∈ tpG := tpG_mem (i := 743) (by decide +kernel) rfl
theorem wd_464 : Cond.selects R_Mo y_Mo_byteOf y_Mo_byteOf ∈ tpG := tpG_mem (i := 48) (by decide +kernel) rfl
theorem wd_465 : Cond.constant R_Mo 174 (65540) ∈ tpG := tpG_mem (i := 749) (by decide +kernel) rfl
theorem wd_466 : Cond.code y_Mo_orderly c_Mo_orderly 6 (some .boolean) ∈ tpG := tpG_mem (i := 748) (by decide +kernel) rfl
theorem wd_467 : Cond.methodLink R_Mo 175 y_Mo_orderly ∈ tpG := tpG_mem (i := 745) (by decide +kernel) rfl
theorem wd_468 : Cond.instanceMethod y_Mo_orderly ∈ tpG := tpG_mem (i := 747) (by decide +kernel) rfl
theorem wd_469 : Cond.selects R_Mo y_Mo_orderly y_Mo_orderly ∈ tpG := tpG_mem (i := 49) (by decide +kernel) rfl
theorem wd_470 : Cond.code y_Mo_takeChunk c_Mo_takeChunk 7 none ∈ tpG := tpG_mem (i := 753) (by decide +kernel) rfl
theorem wd_471 : Cond.methodLink R_Mo 178 y_Mo_takeChunk ∈ tpG := tpG_mem (i := 750) (by decide +kernel) rfl
theorem wd_472 : Cond.instanceMethod y_Mo_takeChunk ∈ tpG := tpG_mem (i := 752) (by decide +kernel) rfl
theorem wd_473 : Cond.selects R_Mo y_Mo_takeChunk y_Mo_takeChunk ∈ tpG := tpG_mem (i := 50) (by decide +kernel) rfl
theorem wd_474 : Cond.methodLink R_Mo 1 objectInit ∈ tpG := tpG_mem (i := 547) (by decide +kernel) rfl
theorem fw_BlockReader : ∀ w ∈ u_ws R_BlockReader T_BlockReader 8, w ∈ tpG := fun w h => List.mem_filter.mpr ⟨(List.mem_filterMap.mp ((by decide +kernel : u_ws R_BlockReader T_BlockReader 8 = ([174, 176, 178, 180, 182, 184, 186, 188] : List Nat).filterMap (fun i => lw_tbl[i]?)) ▸ h)).elim (fun _ q => List.mem_of_getElem? q.2), (List.all_eq_true.mp (by decide +kernel : (u_ws R_BlockReader T_BlockReader 8).all goodWord = true)) w h⟩
theorem fw_BlockWriter : ∀ w ∈ u_ws R_BlockWriter T_BlockWriter 3, w ∈ tpG := fun w h => List.mem_filter.mpr ⟨(List.mem_filterMap.mp ((by decide +kernel : u_ws R_BlockWriter T_BlockWriter 3 = ([133, 135, 137] : List Nat).filterMap (fun i => lw_tbl[i]?)) ▸ h)).elim (fun _ q => List.mem_of_getElem? q.2), (List.all_eq_true.mp (by decide +kernel : (u_ws R_BlockWriter T_BlockWriter 3).all goodWord = true)) w h⟩
theorem fw_Matches : ∀ w ∈ u_ws R_Matches T_Matches 7, w ∈ tpG := fun w h => List.mem_filter.mpr ⟨(List.mem_filterMap.mp ((by decide +kernel : u_ws R_Matches T_Matches 7 = ([108, 110, 112, 114, 116, 118, 120] : List Nat).filterMap (fun i => lw_tbl[i]?)) ▸ h)).elim (fun _ q => List.mem_of_getElem? q.2), (List.all_eq_true.mp (by decide +kernel : (u_ws R_Matches T_Matches 7).all goodWord = true)) w h⟩
theorem fw_Row : ∀ w ∈ u_ws R_Row T_Row 2, w ∈ tpG := fun w h => List.mem_filter.mpr ⟨(List.mem_filterMap.mp ((by decide +kernel : u_ws R_Row T_Row 2 = ([87, 89] : List Nat).filterMap (fun i => lw_tbl[i]?)) ▸ h)).elim (fun _ q => List.mem_of_getElem? q.2), (List.all_eq_true.mp (by decide +kernel : (u_ws R_Row T_Row 2).all goodWord = true)) w h⟩
theorem fw_StreamReader : ∀ w ∈ u_ws R_StreamReader T_StreamReader 7, w ∈ tpG := fun w h => List.mem_filter.mpr ⟨(List.mem_filterMap.mp ((by decide +kernel : u_ws R_StreamReader T_StreamReader 7 = ([206, 208, 210, 212, 214, 216, 218] : List Nat).filterMap (fun i => lw_tbl[i]?)) ▸ h)).elim (fun _ q => List.mem_of_getElem? q.2), (List.all_eq_true.mp (by decide +kernel : (u_ws R_StreamReader T_StreamReader 7).all goodWord = true)) w h⟩
theorem fw_StreamWriter : ∀ w ∈ u_ws R_StreamWriter T_StreamWriter 3, w ∈ tpG := fun w h => List.mem_filter.mpr ⟨(List.mem_filterMap.mp ((by decide +kernel : u_ws R_StreamWriter T_StreamWriter 3 = ([149, 151, 153] : List Nat).filterMap (fun i => lw_tbl[i]?)) ▸ h)).elim (fun _ q => List.mem_of_getElem? q.2), (List.all_eq_true.mp (by decide +kernel : (u_ws R_StreamWriter T_StreamWriter 3).all goodWord = true)) w h⟩
theorem fw_TP : ∀ w ∈ u_ws R_TP T_TP 9, w ∈ tpG := fun w h => List.mem_filter.mpr ⟨(List.mem_filterMap.mp ((by decide +kernel : u_ws R_TP T_TP 9 = ([230, 232, 234, 236, 238, 240, 242, 244, 246] : List Nat).filterMap (fun i => lw_tbl[i]?)) ▸ h)).elim (fun _ q => List.mem_of_getElem? q.2), (List.all_eq_true.mp (by decide +kernel : (u_ws R_TP T_TP 9).all goodWord = true)) w h⟩
theorem fw_Mo : ∀ w ∈ u_ws R_Mo T_Mo 16, w ∈ tpG := fun w h => List.mem_filter.mpr ⟨(List.mem_filterMap.mp ((by decide +kernel : u_ws R_Mo T_Mo 16 = ([564, 566, 568, 570, 572, 574, 576, 578, 580, 582, 584, 586, 588, 590, 592, 594] : List Nat).filterMap (fun i => lw_tbl[i]?)) ▸ h)).elim (fun _ q => List.mem_of_getElem? q.2), (List.all_eq_true.mp (by decide +kernel : (u_ws R_Mo T_Mo 16).all goodWord = true)) w h⟩
def tp_nw : List Cond := [Cond.fieldLinkNest "TagPress$Matches" 41 "TagPress$Row" "count" "I" "TagPress", Cond.fieldLinkNest "TagPress$Matches" 85 "TagPress$Row" "bytes" "[B" "TagPress", Cond.fieldLinkNest "TagPress$BlockWriter" 33 "TagPress$Matches" "length" "I" "TagPress", Cond.fieldLinkNest "TagPress$BlockWriter" 40 "TagPress$Matches" "distance" "I" "TagPress", Cond.fieldLinkNest "TagPress$StreamWriter" 28 "TagPress$Chunk" "MARK" "[I" "TagPress", Cond.fieldLinkNest "TagPress$StreamWriter" 36 "TagPress$Row" "count" "I" "TagPress", Cond.fieldLinkNest "TagPress$BlockReader" 38 "TagPress$Row" "count" "I" "TagPress", Cond.fieldLinkNest "TagPress$StreamReader" 33 "TagPress$Row" "count" "I" "TagPress", Cond.fieldLinkNest "TagPress$StreamReader" 80 "TagPress$Chunk" "MARK" "[I" "TagPress", Cond.fieldLinkNest "TagPress$StreamReader" 84 "TagPress$BlockReader" "fault" "I" "TagPress", Cond.fieldLinkNest "TagPress$StreamReader" 85 "TagPress$BlockReader" "faultPlace" "I" "TagPress", Cond.fieldLinkNest "TagPress" 71 "TagPress$Row" "count" "I" "TagPress", Cond.fieldLinkNest "TagPress" 109 "TagPress$BlockReader" "fault" "I" "TagPress", Cond.fieldLinkNest "TagPress" 112 "TagPress$BlockReader" "faultPlace" "I" "TagPress", Cond.fieldLinkNest "TagPress" 146 "TagPress$StreamReader" "fault" "I" "TagPress", Cond.fieldLinkNest "TagPress" 147 "TagPress$StreamReader" "faultPlace" "I" "TagPress", Cond.methodLinkNest "TagPress" 9 y_Row_init "TagPress"]
theorem nw_0 : Cond.fieldLinkNest "TagPress$Matches" 41 "TagPress$Row" "count" "I" "TagPress" ∈ tp_nw := List.mem_of_getElem? (i := 0) rfl
theorem nw_1 : Cond.fieldLinkNest "TagPress$Matches" 85 "TagPress$Row" "bytes" "[B" "TagPress" ∈ tp_nw := List.mem_of_getElem? (i := 1) rfl
theorem nw_2 : Cond.fieldLinkNest "TagPress$BlockWriter" 33 "TagPress$Matches" "length" "I" "TagPress" ∈ tp_nw := List.mem_of_getElem? (i := 2) rfl
theorem nw_3 : Cond.fieldLinkNest "TagPress$BlockWriter" 40 "TagPress$Matches" "distance" "I" "TagPress" ∈ tp_nw := List.mem_of_getElem? (i := 3) rfl
theorem nw_4 : Cond.fieldLinkNest "TagPress$StreamWriter" 28 "TagPress$Chunk" "MARK" "[I" "TagPress" ∈ tp_nw := List.mem_of_getElem? (i := 4) rfl
theorem nw_5 : Cond.fieldLinkNest "TagPress$StreamWriter" 36 "TagPress$Row" "count" "I" "TagPress" ∈ tp_nw := List.mem_of_getElem? (i := 5) rfl
theorem nw_6 : Cond.fieldLinkNest "TagPress$BlockReader" 38 "TagPress$Row" "count" "I" "TagPress" ∈ tp_nw := List.mem_of_getElem? (i := 6) rfl
theorem nw_7 : Cond.fieldLinkNest "TagPress$StreamReader" 33 "TagPress$Row" "count" "I" "TagPress" ∈ tp_nw := List.mem_of_getElem? (i := 7) rfl
theorem nw_8 : Cond.fieldLinkNest "TagPress$StreamReader" 80 "TagPress$Chunk" "MARK" "[I" "TagPress" ∈ tp_nw := List.mem_of_getElem? (i := 8) rfl
theorem nw_9 : Cond.fieldLinkNest "TagPress$StreamReader" 84 "TagPress$BlockReader" "fault" "I" "TagPress" ∈ tp_nw := List.mem_of_getElem? (i := 9) rfl
theorem nw_10 : Cond.fieldLinkNest "TagPress$StreamReader" 85 "TagPress$BlockReader" "faultPlace" "I" "TagPress" ∈ tp_nw := List.mem_of_getElem? (i := 10) rfl
theorem nw_11 : Cond.fieldLinkNest "TagPress" 71 "TagPress$Row" "count" "I" "TagPress" ∈ tp_nw := List.mem_of_getElem? (i := 11) rfl
theorem nw_12 : Cond.fieldLinkNest "TagPress" 109 "TagPress$BlockReader" "fault" "I" "TagPress" ∈ tp_nw := List.mem_of_getElem? (i := 12) rfl
theorem nw_13 : Cond.fieldLinkNest "TagPress" 112 "TagPress$BlockReader" "faultPlace" "I" "TagPress" ∈ tp_nw := List.mem_of_getElem? (i := 13) rfl
theorem nw_14 : Cond.fieldLinkNest "TagPress" 146 "TagPress$StreamReader" "fault" "I" "TagPress" ∈ tp_nw := List.mem_of_getElem? (i := 14) rfl
theorem nw_15 : Cond.fieldLinkNest "TagPress" 147 "TagPress$StreamReader" "faultPlace" "I" "TagPress" ∈ tp_nw := List.mem_of_getElem? (i := 15) rfl
theorem nw_16 : Cond.methodLinkNest "TagPress" 9 y_Row_init "TagPress" ∈ tp_nw := List.mem_of_getElem? (i := 16) rfl
theorem tp_nw_in : ∀ w ∈ tp_nw, w ∈ lw_tbl := fun w h => (List.mem_filterMap.mp ((by decide +kernel : tp_nw = ([84, 80, 105, 107, 442, 85, 82, 86, 506, 169, 172, 83, 170, 173, 203, 205, 75] : List Nat).filterMap (fun i => lw_tbl[i]?)) ▸ h)).elim (fun _ q => List.mem_of_getElem? q.2)
theorem yd_Row_put : y_Row_put.cls ≠ "java/lang/invoke/MethodHandle" ∧ y_Row_put.cls ≠ "java/lang/invoke/VarHandle" ∧ (parseMethodDescriptor y_Row_put.desc).map (fun d => d.parameters.length) = some 1 := by decide +kernel
theorem yd_Row_set : y_Row_set.cls ≠ "java/lang/invoke/MethodHandle" ∧ y_Row_set.cls ≠ "java/lang/invoke/VarHandle" ∧ (parseMethodDescriptor y_Row_set.desc).map (fun d => d.parameters.length) = some 2 := by decide +kernel
theorem yd_Row_at : y_Row_at.cls ≠ "java/lang/invoke/MethodHandle" ∧ y_Row_at.cls ≠ "java/lang/invoke/VarHandle" ∧ (parseMethodDescriptor y_Row_at.desc).map (fun d => d.parameters.length) = some 1 := by decide +kernel
theorem yd_Row_fits : y_Row_fits.cls ≠ "java/lang/invoke/MethodHandle" ∧ y_Row_fits.cls ≠ "java/lang/invoke/VarHandle" ∧ (parseMethodDescriptor y_Row_fits.desc).map (fun d => d.parameters.length) = some 0 := by decide +kernel
theorem yd_Sums_goRight : y_Sums_goRight.cls ≠ "java/lang/invoke/MethodHandle" ∧ y_Sums_goRight.cls ≠ "java/lang/invoke/VarHandle" ∧ (parseMethodDescriptor y_Sums_goRight.desc).map (fun d => d.parameters.length) = some 1 := by decide +kernel
theorem yd_Row_numberAt : y_Row_numberAt.cls ≠ "java/lang/invoke/MethodHandle" ∧ y_Row_numberAt.cls ≠ "java/lang/invoke/VarHandle" ∧ (parseMethodDescriptor y_Row_numberAt.desc).map (fun d => d.parameters.length) = some 2 := by decide +kernel
theorem yd_Ar_fill : y_Ar_fill.cls ≠ "java/lang/invoke/MethodHandle" ∧ y_Ar_fill.cls ≠ "java/lang/invoke/VarHandle" ∧ (parseMethodDescriptor y_Ar_fill.desc).map (fun d => d.parameters.length) = some 2 := by decide +kernel
theorem yd_Matches_bucketOf : y_Matches_bucketOf.cls ≠ "java/lang/invoke/MethodHandle" ∧ y_Matches_bucketOf.cls ≠ "java/lang/invoke/VarHandle" ∧ (parseMethodDescriptor y_Matches_bucketOf.desc).map (fun d => d.parameters.length) = some 1 := by decide +kernel
theorem yd_Matches_earlier : y_Matches_earlier.cls ≠ "java/lang/invoke/MethodHandle" ∧ y_Matches_earlier.cls ≠ "java/lang/invoke/VarHandle" ∧ (parseMethodDescriptor y_Matches_earlier.desc).map (fun d => d.parameters.length) = some 1 := by decide +kernel
theorem yd_Matches_alike : y_Matches_alike.cls ≠ "java/lang/invoke/MethodHandle" ∧ y_Matches_alike.cls ≠ "java/lang/invoke/VarHandle" ∧ (parseMethodDescriptor y_Matches_alike.desc).map (fun d => d.parameters.length) = some 3 := by decide +kernel
theorem yd_Matches_findLongest : y_Matches_findLongest.cls ≠ "java/lang/invoke/MethodHandle" ∧ y_Matches_findLongest.cls ≠ "java/lang/invoke/VarHandle" ∧ (parseMethodDescriptor y_Matches_findLongest.desc).map (fun d => d.parameters.length) = some 1 := by decide +kernel
theorem yd_Matches_dropIfNextIsLonger : y_Matches_dropIfNextIsLonger.cls ≠ "java/lang/invoke/MethodHandle" ∧ y_Matches_dropIfNextIsLonger.cls ≠ "java/lang/invoke/VarHandle" ∧ (parseMethodDescriptor y_Matches_dropIfNextIsLonger.desc).map (fun d => d.parameters.length) = some 1 := by decide +kernel
theorem yd_Matches_findNearest : y_Matches_findNearest.cls ≠ "java/lang/invoke/MethodHandle" ∧ y_Matches_findNearest.cls ≠ "java/lang/invoke/VarHandle" ∧ (parseMethodDescriptor y_Matches_findNearest.desc).map (fun d => d.parameters.length) = some 2 := by decide +kernel
theorem yd_Row_putNumber : y_Row_putNumber.cls ≠ "java/lang/invoke/MethodHandle" ∧ y_Row_putNumber.cls ≠ "java/lang/invoke/VarHandle" ∧ (parseMethodDescriptor y_Row_putNumber.desc).map (fun d => d.parameters.length) = some 2 := by decide +kernel
theorem yd_Row_putFrom : y_Row_putFrom.cls ≠ "java/lang/invoke/MethodHandle" ∧ y_Row_putFrom.cls ≠ "java/lang/invoke/VarHandle" ∧ (parseMethodDescriptor y_Row_putFrom.desc).map (fun d => d.parameters.length) = some 3 := by decide +kernel
theorem yd_Matches_keepWithin : y_Matches_keepWithin.cls ≠ "java/lang/invoke/MethodHandle" ∧ y_Matches_keepWithin.cls ≠ "java/lang/invoke/VarHandle" ∧ (parseMethodDescriptor y_Matches_keepWithin.desc).map (fun d => d.parameters.length) = some 2 := by decide +kernel
theorem yd_BlockWriter_putLength : y_BlockWriter_putLength.cls ≠ "java/lang/invoke/MethodHandle" ∧ y_BlockWriter_putLength.cls ≠ "java/lang/invoke/VarHandle" ∧ (parseMethodDescriptor y_BlockWriter_putLength.desc).map (fun d => d.parameters.length) = some 1 := by decide +kernel
theorem yd_BlockWriter_putLiterals : y_BlockWriter_putLiterals.cls ≠ "java/lang/invoke/MethodHandle" ∧ y_BlockWriter_putLiterals.cls ≠ "java/lang/invoke/VarHandle" ∧ (parseMethodDescriptor y_BlockWriter_putLiterals.desc).map (fun d => d.parameters.length) = some 2 := by decide +kernel
theorem yd_Matches_findAt : y_Matches_findAt.cls ≠ "java/lang/invoke/MethodHandle" ∧ y_Matches_findAt.cls ≠ "java/lang/invoke/VarHandle" ∧ (parseMethodDescriptor y_Matches_findAt.desc).map (fun d => d.parameters.length) = some 2 := by decide +kernel
theorem yd_BlockWriter_putMatch : y_BlockWriter_putMatch.cls ≠ "java/lang/invoke/MethodHandle" ∧ y_BlockWriter_putMatch.cls ≠ "java/lang/invoke/VarHandle" ∧ (parseMethodDescriptor y_BlockWriter_putMatch.desc).map (fun d => d.parameters.length) = some 2 := by decide +kernel
theorem yd_Sums_sumOf : y_Sums_sumOf.cls ≠ "java/lang/invoke/MethodHandle" ∧ y_Sums_sumOf.cls ≠ "java/lang/invoke/VarHandle" ∧ (parseMethodDescriptor y_Sums_sumOf.desc).map (fun d => d.parameters.length) = some 3 := by decide +kernel
theorem yd_BlockWriter_putBlock : y_BlockWriter_putBlock.cls ≠ "java/lang/invoke/MethodHandle" ∧ y_BlockWriter_putBlock.cls ≠ "java/lang/invoke/VarHandle" ∧ (parseMethodDescriptor y_BlockWriter_putBlock.desc).map (fun d => d.parameters.length) = some 3 := by decide +kernel
theorem yd_Row_shorten : y_Row_shorten.cls ≠ "java/lang/invoke/MethodHandle" ∧ y_Row_shorten.cls ≠ "java/lang/invoke/VarHandle" ∧ (parseMethodDescriptor y_Row_shorten.desc).map (fun d => d.parameters.length) = some 1 := by decide +kernel
theorem yd_Row_setNumber : y_Row_setNumber.cls ≠ "java/lang/invoke/MethodHandle" ∧ y_Row_setNumber.cls ≠ "java/lang/invoke/VarHandle" ∧ (parseMethodDescriptor y_Row_setNumber.desc).map (fun d => d.parameters.length) = some 3 := by decide +kernel
theorem yd_BlockReader_fail : y_BlockReader_fail.cls ≠ "java/lang/invoke/MethodHandle" ∧ y_BlockReader_fail.cls ≠ "java/lang/invoke/VarHandle" ∧ (parseMethodDescriptor y_BlockReader_fail.desc).map (fun d => d.parameters.length) = some 2 := by decide +kernel
theorem yd_BlockReader_made : y_BlockReader_made.cls ≠ "java/lang/invoke/MethodHandle" ∧ y_BlockReader_made.cls ≠ "java/lang/invoke/VarHandle" ∧ (parseMethodDescriptor y_BlockReader_made.desc).map (fun d => d.parameters.length) = some 0 := by decide +kernel
theorem yd_Row_putBack : y_Row_putBack.cls ≠ "java/lang/invoke/MethodHandle" ∧ y_Row_putBack.cls ≠ "java/lang/invoke/VarHandle" ∧ (parseMethodDescriptor y_Row_putBack.desc).map (fun d => d.parameters.length) = some 2 := by decide +kernel
theorem yd_BlockReader_next : y_BlockReader_next.cls ≠ "java/lang/invoke/MethodHandle" ∧ y_BlockReader_next.cls ≠ "java/lang/invoke/VarHandle" ∧ (parseMethodDescriptor y_BlockReader_next.desc).map (fun d => d.parameters.length) = some 0 := by decide +kernel
theorem yd_BlockReader_nextNumber : y_BlockReader_nextNumber.cls ≠ "java/lang/invoke/MethodHandle" ∧ y_BlockReader_nextNumber.cls ≠ "java/lang/invoke/VarHandle" ∧ (parseMethodDescriptor y_BlockReader_nextNumber.desc).map (fun d => d.parameters.length) = some 1 := by decide +kernel
theorem yd_BlockReader_readLiterals : y_BlockReader_readLiterals.cls ≠ "java/lang/invoke/MethodHandle" ∧ y_BlockReader_readLiterals.cls ≠ "java/lang/invoke/VarHandle" ∧ (parseMethodDescriptor y_BlockReader_readLiterals.desc).map (fun d => d.parameters.length) = some 2 := by decide +kernel
theorem yd_BlockReader_readCopy : y_BlockReader_readCopy.cls ≠ "java/lang/invoke/MethodHandle" ∧ y_BlockReader_readCopy.cls ≠ "java/lang/invoke/VarHandle" ∧ (parseMethodDescriptor y_BlockReader_readCopy.desc).map (fun d => d.parameters.length) = some 3 := by decide +kernel
theorem yd_BlockReader_readLength : y_BlockReader_readLength.cls ≠ "java/lang/invoke/MethodHandle" ∧ y_BlockReader_readLength.cls ≠ "java/lang/invoke/VarHandle" ∧ (parseMethodDescriptor y_BlockReader_readLength.desc).map (fun d => d.parameters.length) = some 1 := by decide +kernel
theorem yd_BlockReader_readElement : y_BlockReader_readElement.cls ≠ "java/lang/invoke/MethodHandle" ∧ y_BlockReader_readElement.cls ≠ "java/lang/invoke/VarHandle" ∧ (parseMethodDescriptor y_BlockReader_readElement.desc).map (fun d => d.parameters.length) = some 0 := by decide +kernel
theorem yd_StreamReader_fail : y_StreamReader_fail.cls ≠ "java/lang/invoke/MethodHandle" ∧ y_StreamReader_fail.cls ≠ "java/lang/invoke/VarHandle" ∧ (parseMethodDescriptor y_StreamReader_fail.desc).map (fun d => d.parameters.length) = some 2 := by decide +kernel
theorem yd_StreamReader_checkHead : y_StreamReader_checkHead.cls ≠ "java/lang/invoke/MethodHandle" ∧ y_StreamReader_checkHead.cls ≠ "java/lang/invoke/VarHandle" ∧ (parseMethodDescriptor y_StreamReader_checkHead.desc).map (fun d => d.parameters.length) = some 2 := by decide +kernel
theorem yd_StreamReader_readPlain : y_StreamReader_readPlain.cls ≠ "java/lang/invoke/MethodHandle" ∧ y_StreamReader_readPlain.cls ≠ "java/lang/invoke/VarHandle" ∧ (parseMethodDescriptor y_StreamReader_readPlain.desc).map (fun d => d.parameters.length) = some 2 := by decide +kernel
theorem yd_StreamReader_checkSum : y_StreamReader_checkSum.cls ≠ "java/lang/invoke/MethodHandle" ∧ y_StreamReader_checkSum.cls ≠ "java/lang/invoke/VarHandle" ∧ (parseMethodDescriptor y_StreamReader_checkSum.desc).map (fun d => d.parameters.length) = some 2 := by decide +kernel
theorem yd_BlockReader_readBlock : y_BlockReader_readBlock.cls ≠ "java/lang/invoke/MethodHandle" ∧ y_BlockReader_readBlock.cls ≠ "java/lang/invoke/VarHandle" ∧ (parseMethodDescriptor y_BlockReader_readBlock.desc).map (fun d => d.parameters.length) = some 3 := by decide +kernel
theorem yd_StreamReader_takeFaultOfBlock : y_StreamReader_takeFaultOfBlock.cls ≠ "java/lang/invoke/MethodHandle" ∧ y_StreamReader_takeFaultOfBlock.cls ≠ "java/lang/invoke/VarHandle" ∧ (parseMethodDescriptor y_StreamReader_takeFaultOfBlock.desc).map (fun d => d.parameters.length) = some 0 := by decide +kernel
theorem yd_StreamReader_checkMark : y_StreamReader_checkMark.cls ≠ "java/lang/invoke/MethodHandle" ∧ y_StreamReader_checkMark.cls ≠ "java/lang/invoke/VarHandle" ∧ (parseMethodDescriptor y_StreamReader_checkMark.desc).map (fun d => d.parameters.length) = some 2 := by decide +kernel
theorem yd_Row_become : y_Row_become.cls ≠ "java/lang/invoke/MethodHandle" ∧ y_Row_become.cls ≠ "java/lang/invoke/VarHandle" ∧ (parseMethodDescriptor y_Row_become.desc).map (fun d => d.parameters.length) = some 1 := by decide +kernel
theorem yd_TP_isNoWay : y_TP_isNoWay.cls ≠ "java/lang/invoke/MethodHandle" ∧ y_TP_isNoWay.cls ≠ "java/lang/invoke/VarHandle" ∧ (parseMethodDescriptor y_TP_isNoWay.desc).map (fun d => d.parameters.length) = some 1 := by decide +kernel
theorem yd_Matches_index : y_Matches_index.cls ≠ "java/lang/invoke/MethodHandle" ∧ y_Matches_index.cls ≠ "java/lang/invoke/VarHandle" ∧ (parseMethodDescriptor y_Matches_index.desc).map (fun d => d.parameters.length) = some 0 := by decide +kernel
theorem yd_TP_endWriting : y_TP_endWriting.cls ≠ "java/lang/invoke/MethodHandle" ∧ y_TP_endWriting.cls ≠ "java/lang/invoke/VarHandle" ∧ (parseMethodDescriptor y_TP_endWriting.desc).map (fun d => d.parameters.length) = some 0 := by decide +kernel
theorem yd_TP_isNoMost : y_TP_isNoMost.cls ≠ "java/lang/invoke/MethodHandle" ∧ y_TP_isNoMost.cls ≠ "java/lang/invoke/VarHandle" ∧ (parseMethodDescriptor y_TP_isNoMost.desc).map (fun d => d.parameters.length) = some 1 := by decide +kernel
theorem yd_TP_endReading : y_TP_endReading.cls ≠ "java/lang/invoke/MethodHandle" ∧ y_TP_endReading.cls ≠ "java/lang/invoke/VarHandle" ∧ (parseMethodDescriptor y_TP_endReading.desc).map (fun d => d.parameters.length) = some 2 := by decide +kernel
theorem yd_StreamWriter_putMark : y_StreamWriter_putMark.cls ≠ "java/lang/invoke/MethodHandle" ∧ y_StreamWriter_putMark.cls ≠ "java/lang/invoke/VarHandle" ∧ (parseMethodDescriptor y_StreamWriter_putMark.desc).map (fun d => d.parameters.length) = some 0 := by decide +kernel
theorem yd_StreamWriter_putData : y_StreamWriter_putData.cls ≠ "java/lang/invoke/MethodHandle" ∧ y_StreamWriter_putData.cls ≠ "java/lang/invoke/VarHandle" ∧ (parseMethodDescriptor y_StreamWriter_putData.desc).map (fun d => d.parameters.length) = some 3 := by decide +kernel
theorem yd_StreamWriter_putSpare : y_StreamWriter_putSpare.cls ≠ "java/lang/invoke/MethodHandle" ∧ y_StreamWriter_putSpare.cls ≠ "java/lang/invoke/VarHandle" ∧ (parseMethodDescriptor y_StreamWriter_putSpare.desc).map (fun d => d.parameters.length) = some 1 := by decide +kernel
theorem yd_StreamReader_begin : y_StreamReader_begin.cls ≠ "java/lang/invoke/MethodHandle" ∧ y_StreamReader_begin.cls ≠ "java/lang/invoke/VarHandle" ∧ (parseMethodDescriptor y_StreamReader_begin.desc).map (fun d => d.parameters.length) = some 1 := by decide +kernel
theorem yd_StreamReader_hasMore : y_StreamReader_hasMore.cls ≠ "java/lang/invoke/MethodHandle" ∧ y_StreamReader_hasMore.cls ≠ "java/lang/invoke/VarHandle" ∧ (parseMethodDescriptor y_StreamReader_hasMore.desc).map (fun d => d.parameters.length) = some 0 := by decide +kernel
theorem yd_StreamReader_readChunk : y_StreamReader_readChunk.cls ≠ "java/lang/invoke/MethodHandle" ∧ y_StreamReader_readChunk.cls ≠ "java/lang/invoke/VarHandle" ∧ (parseMethodDescriptor y_StreamReader_readChunk.desc).map (fun d => d.parameters.length) = some 0 := by decide +kernel
theorem yd_Row_init : y_Row_init.cls ≠ "java/lang/invoke/MethodHandle" ∧ y_Row_init.cls ≠ "java/lang/invoke/VarHandle" ∧ (parseMethodDescriptor y_Row_init.desc).map (fun d => d.parameters.length) = some 0 := by decide +kernel
theorem yd_Matches_init : y_Matches_init.cls ≠ "java/lang/invoke/MethodHandle" ∧ y_Matches_init.cls ≠ "java/lang/invoke/VarHandle" ∧ (parseMethodDescriptor y_Matches_init.desc).map (fun d => d.parameters.length) = some 1 := by decide +kernel
theorem yd_BlockWriter_init : y_BlockWriter_init.cls ≠ "java/lang/invoke/MethodHandle" ∧ y_BlockWriter_init.cls ≠ "java/lang/invoke/VarHandle" ∧ (parseMethodDescriptor y_BlockWriter_init.desc).map (fun d => d.parameters.length) = some 3 := by decide +kernel
theorem yd_StreamWriter_init : y_StreamWriter_init.cls ≠ "java/lang/invoke/MethodHandle" ∧ y_StreamWriter_init.cls ≠ "java/lang/invoke/VarHandle" ∧ (parseMethodDescriptor y_StreamWriter_init.desc).map (fun d => d.parameters.length) = some 3 := by decide +kernel
theorem yd_BlockReader_init : y_BlockReader_init.cls ≠ "java/lang/invoke/MethodHandle" ∧ y_BlockReader_init.cls ≠ "java/lang/invoke/VarHandle" ∧ (parseMethodDescriptor y_BlockReader_init.desc).map (fun d => d.parameters.length) = some 2 := by decide +kernel
theorem yd_StreamReader_init : y_StreamReader_init.cls ≠ "java/lang/invoke/MethodHandle" ∧ y_StreamReader_init.cls ≠ "java/lang/invoke/VarHandle" ∧ (parseMethodDescriptor y_StreamReader_init.desc).map (fun d => d.parameters.length) = some 3 := by decide +kernel
theorem yd_Mo_put : y_Mo_put.cls ≠ "java/lang/invoke/MethodHandle" ∧ y_Mo_put.cls ≠ "java/lang/invoke/VarHandle" ∧ (parseMethodDescriptor y_Mo_put.desc).map (fun d => d.parameters.length) = some 1 := by decide +kernel
theorem yd_Mo_alike : y_Mo_alike.cls ≠ "java/lang/invoke/MethodHandle" ∧ y_Mo_alike.cls ≠ "java/lang/invoke/VarHandle" ∧ (parseMethodDescriptor y_Mo_alike.desc).map (fun d => d.parameters.length) = some 3 := by decide +kernel
theorem yd_Mo_nearest : y_Mo_nearest.cls ≠ "java/lang/invoke/MethodHandle" ∧ y_Mo_nearest.cls ≠ "java/lang/invoke/VarHandle" ∧ (parseMethodDescriptor y_Mo_nearest.desc).map (fun d => d.parameters.length) = some 4 := by decide +kernel
theorem yd_Mo_longest : y_Mo_longest.cls ≠ "java/lang/invoke/MethodHandle" ∧ y_Mo_longest.cls ≠ "java/lang/invoke/VarHandle" ∧ (parseMethodDescriptor y_Mo_longest.desc).map (fun d => d.parameters.length) = some 3 := by decide +kernel
theorem yd_Mo_bytesFor : y_Mo_bytesFor.cls ≠ "java/lang/invoke/MethodHandle" ∧ y_Mo_bytesFor.cls ≠ "java/lang/invoke/VarHandle" ∧ (parseMethodDescriptor y_Mo_bytesFor.desc).map (fun d => d.parameters.length) = some 2 := by decide +kernel
theorem yd_Mo_fewest : y_Mo_fewest.cls ≠ "java/lang/invoke/MethodHandle" ∧ y_Mo_fewest.cls ≠ "java/lang/invoke/VarHandle" ∧ (parseMethodDescriptor y_Mo_fewest.desc).map (fun d => d.parameters.length) = some 2 := by decide +kernel
theorem yd_Mo_tried : y_Mo_tried.cls ≠ "java/lang/invoke/MethodHandle" ∧ y_Mo_tried.cls ≠ "java/lang/invoke/VarHandle" ∧ (parseMethodDescriptor y_Mo_tried.desc).map (fun d => d.parameters.length) = some 3 := by decide +kernel
theorem yd_Mo_know : y_Mo_know.cls ≠ "java/lang/invoke/MethodHandle" ∧ y_Mo_know.cls ≠ "java/lang/invoke/VarHandle" ∧ (parseMethodDescriptor y_Mo_know.desc).map (fun d => d.parameters.length) = some 1 := by decide +kernel
theorem yd_Mo_putNumber : y_Mo_putNumber.cls ≠ "java/lang/invoke/MethodHandle" ∧ y_Mo_putNumber.cls ≠ "java/lang/invoke/VarHandle" ∧ (parseMethodDescriptor y_Mo_putNumber.desc).map (fun d => d.parameters.length) = some 2 := by decide +kernel
theorem yd_Mo_putLiterals : y_Mo_putLiterals.cls ≠ "java/lang/invoke/MethodHandle" ∧ y_Mo_putLiterals.cls ≠ "java/lang/invoke/VarHandle" ∧ (parseMethodDescriptor y_Mo_putLiterals.desc).map (fun d => d.parameters.length) = some 2 := by decide +kernel
theorem yd_Mo_match : y_Mo_match.cls ≠ "java/lang/invoke/MethodHandle" ∧ y_Mo_match.cls ≠ "java/lang/invoke/VarHandle" ∧ (parseMethodDescriptor y_Mo_match.desc).map (fun d => d.parameters.length) = some 4 := by decide +kernel
theorem yd_Mo_putCopies : y_Mo_putCopies.cls ≠ "java/lang/invoke/MethodHandle" ∧ y_Mo_putCopies.cls ≠ "java/lang/invoke/VarHandle" ∧ (parseMethodDescriptor y_Mo_putCopies.desc).map (fun d => d.parameters.length) = some 2 := by decide +kernel
theorem yd_Mo_putBlock : y_Mo_putBlock.cls ≠ "java/lang/invoke/MethodHandle" ∧ y_Mo_putBlock.cls ≠ "java/lang/invoke/VarHandle" ∧ (parseMethodDescriptor y_Mo_putBlock.desc).map (fun d => d.parameters.length) = some 3 := by decide +kernel
theorem yd_Mo_settle : y_Mo_settle.cls ≠ "java/lang/invoke/MethodHandle" ∧ y_Mo_settle.cls ≠ "java/lang/invoke/VarHandle" ∧ (parseMethodDescriptor y_Mo_settle.desc).map (fun d => d.parameters.length) = some 0 := by decide +kernel
theorem yd_Mo_fails : y_Mo_fails.cls ≠ "java/lang/invoke/MethodHandle" ∧ y_Mo_fails.cls ≠ "java/lang/invoke/VarHandle" ∧ (parseMethodDescriptor y_Mo_fails.desc).map (fun d => d.parameters.length) = some 2 := by decide +kernel
theorem yd_Mo_take : y_Mo_take.cls ≠ "java/lang/invoke/MethodHandle" ∧ y_Mo_take.cls ≠ "java/lang/invoke/VarHandle" ∧ (parseMethodDescriptor y_Mo_take.desc).map (fun d => d.parameters.length) = some 1 := by decide +kernel
theorem yd_Mo_fitting : y_Mo_fitting.cls ≠ "java/lang/invoke/MethodHandle" ∧ y_Mo_fitting.cls ≠ "java/lang/invoke/VarHandle" ∧ (parseMethodDescriptor y_Mo_fitting.desc).map (fun d => d.parameters.length) = some 5 := by decide +kernel
theorem yd_Mo_takeLength : y_Mo_takeLength.cls ≠ "java/lang/invoke/MethodHandle" ∧ y_Mo_takeLength.cls ≠ "java/lang/invoke/VarHandle" ∧ (parseMethodDescriptor y_Mo_takeLength.desc).map (fun d => d.parameters.length) = some 1 := by decide +kernel
theorem yd_Mo_copy : y_Mo_copy.cls ≠ "java/lang/invoke/MethodHandle" ∧ y_Mo_copy.cls ≠ "java/lang/invoke/VarHandle" ∧ (parseMethodDescriptor y_Mo_copy.desc).map (fun d => d.parameters.length) = some 5 := by decide +kernel
theorem yd_Mo_literals : y_Mo_literals.cls ≠ "java/lang/invoke/MethodHandle" ∧ y_Mo_literals.cls ≠ "java/lang/invoke/VarHandle" ∧ (parseMethodDescriptor y_Mo_literals.desc).map (fun d => d.parameters.length) = some 4 := by decide +kernel
theorem yd_Mo_beginReading : y_Mo_beginReading.cls ≠ "java/lang/invoke/MethodHandle" ∧ y_Mo_beginReading.cls ≠ "java/lang/invoke/VarHandle" ∧ (parseMethodDescriptor y_Mo_beginReading.desc).map (fun d => d.parameters.length) = some 0 := by decide +kernel
theorem yd_Mo_takeBlock : y_Mo_takeBlock.cls ≠ "java/lang/invoke/MethodHandle" ∧ y_Mo_takeBlock.cls ≠ "java/lang/invoke/VarHandle" ∧ (parseMethodDescriptor y_Mo_takeBlock.desc).map (fun d => d.parameters.length) = some 1 := by decide +kernel
theorem yd_Mo_endReading : y_Mo_endReading.cls ≠ "java/lang/invoke/MethodHandle" ∧ y_Mo_endReading.cls ≠ "java/lang/invoke/VarHandle" ∧ (parseMethodDescriptor y_Mo_endReading.desc).map (fun d => d.parameters.length) = some 0 := by decide +kernel
theorem yd_Mo_sumOf : y_Mo_sumOf.cls ≠ "java/lang/invoke/MethodHandle" ∧ y_Mo_sumOf.cls ≠ "java/lang/invoke/VarHandle" ∧ (parseMethodDescriptor y_Mo_sumOf.desc).map (fun d => d.parameters.length) = some 3 := by decide +kernel
theorem yd_Mo_mark : y_Mo_mark.cls ≠ "java/lang/invoke/MethodHandle" ∧ y_Mo_mark.cls ≠ "java/lang/invoke/VarHandle" ∧ (parseMethodDescriptor y_Mo_mark.desc).map (fun d => d.parameters.length) = some 1 := by decide +kernel
theorem yd_Mo_putRow : y_Mo_putRow.cls ≠ "java/lang/invoke/MethodHandle" ∧ y_Mo_putRow.cls ≠ "java/lang/invoke/VarHandle" ∧ (parseMethodDescriptor y_Mo_putRow.desc).map (fun d => d.parameters.length) = some 3 := by decide +kernel
theorem yd_Mo_byteOf : y_Mo_byteOf.cls ≠ "java/lang/invoke/MethodHandle" ∧ y_Mo_byteOf.cls ≠ "java/lang/invoke/VarHandle" ∧ (parseMethodDescriptor y_Mo_byteOf.desc).map (fun d => d.parameters.length) = some 1 := by decide +kernel
theorem yd_Mo_orderly : y_Mo_orderly.cls ≠ "java/lang/invoke/MethodHandle" ∧ y_Mo_orderly.cls ≠ "java/lang/invoke/VarHandle" ∧ (parseMethodDescriptor y_Mo_orderly.desc).map (fun d => d.parameters.length) = some 2 := by decide +kernel
theorem yd_Mo_takeChunk : y_Mo_takeChunk.cls ≠ "java/lang/invoke/MethodHandle" ∧ y_Mo_takeChunk.cls ≠ "java/lang/invoke/VarHandle" ∧ (parseMethodDescriptor y_Mo_takeChunk.desc).map (fun d => d.parameters.length) = some 3 := by decide +kernel
def tp_mark (j : Nat) : Int32 := [115, 78, 97, 80, 112, 89].getD j 0
/-- the static row of the mark, which nobody writes -/
def tp_St (tM : Nat) (A : Nat → Prop) (U : State) (H : Heap) : Prop := va_Z "TagPress$Chunk" "MARK" "[I" (.ref tM) A U H ∧ va_T .int tM 6 (fun j => .int (tp_mark j)) A U H
