theorem q_0 : Cond.selects "ThinSeries" ⟨"ThinSeries", "appendToTape", "(I)V"⟩ ⟨"ThinSeries", "appendToTape", "(I)V"⟩ ∈ tb := tb_at 0 (by decide +kernel)
theorem q_1 : Cond.selects "ThinSeries" ⟨"ThinSeries", "explain", "(IIII)V"⟩ ⟨"ThinSeries", "explain", "(IIII)V"⟩ ∈ tb := tb_at 1 (by decide +kernel)
theorem q_2 : Cond.selects "ThinSeries" ⟨"ThinSeries", "latenessIn", "(LThinSeries$Roster;II)I"⟩ ⟨"ThinSeries", "latenessIn", "(LThinSeries$Roster;II)I"⟩ ∈ tb := tb_at 2 (by decide +kernel)
theorem q_3 : Cond.selects "ThinSeries$Roster" ⟨"ThinSeries$Roster", "placeOf", "(I)I"⟩ ⟨"ThinSeries$Roster", "placeOf", "(I)I"⟩ ∈ tb := tb_at 3 (by decide +kernel)
theorem q_4 : Cond.selects "ThinSeries" ⟨"ThinSeries", "noteLate", "(I)V"⟩ ⟨"ThinSeries", "noteLate", "(I)V"⟩ ∈ tb := tb_at 4 (by decide +kernel)
theorem q_5 : Cond.selects "ThinSeries" ⟨"ThinSeries", "rowsOf", "(I)LThinSeries$Series;"⟩ ⟨"ThinSeries", "rowsOf", "(I)LThinSeries$Series;"⟩ ∈ tb := tb_at 5 (by decide +kernel)
theorem q_6 : Cond.selects "ThinSeries" ⟨"ThinSeries", "place", "(III)I"⟩ ⟨"ThinSeries", "place", "(III)I"⟩ ∈ tb := tb_at 6 (by decide +kernel)
theorem q_7 : Cond.selects "ThinSeries" ⟨"ThinSeries", "bring", "(II)LThinSeries$Series;"⟩ ⟨"ThinSeries", "bring", "(II)LThinSeries$Series;"⟩ ∈ tb := tb_at 7 (by decide +kernel)
theorem q_8 : Cond.selects "ThinSeries$Series" ⟨"ThinSeries$Series", "join", "(II)V"⟩ ⟨"ThinSeries$Series", "join", "(II)V"⟩ ∈ tb := tb_at 8 (by decide +kernel)
theorem q_9 : Cond.selects "ThinSeries$Series" ⟨"ThinSeries$Series", "carry", "(III)V"⟩ ⟨"ThinSeries$Series", "carry", "(III)V"⟩ ∈ tb := tb_at 9 (by decide +kernel)
theorem q_10 : Cond.selects "ThinSeries$Series" ⟨"ThinSeries$Series", "makeRoom", "()Z"⟩ ⟨"ThinSeries$Series", "makeRoom", "()Z"⟩ ∈ tb := tb_at 10 (by decide +kernel)
theorem q_11 : Cond.selects "ThinSeries$Series" ⟨"ThinSeries$Series", "openAt", "(III)V"⟩ ⟨"ThinSeries$Series", "openAt", "(III)V"⟩ ∈ tb := tb_at 11 (by decide +kernel)
theorem q_12 : Cond.selects "ThinSeries" ⟨"ThinSeries", "tallyAll", "(LThinSeries$Series;)V"⟩ ⟨"ThinSeries", "tallyAll", "(LThinSeries$Series;)V"⟩ ∈ tb := tb_at 12 (by decide +kernel)
theorem q_13 : Cond.selects "ThinSeries" ⟨"ThinSeries", "placeIfItCanBe", "(IJJ)Z"⟩ ⟨"ThinSeries", "placeIfItCanBe", "(IJJ)Z"⟩ ∈ tb := tb_at 13 (by decide +kernel)
theorem q_15 : Cond.selects "ThinSeries$Tokens" ⟨"ThinSeries$Tokens", "readWord", "()V"⟩ ⟨"ThinSeries$Tokens", "readWord", "()V"⟩ ∈ tb := tb_at 15 (by decide +kernel)
theorem q_16 : Cond.selects "ThinSeries$Tokens" ⟨"ThinSeries$Tokens", "readNumber", "()V"⟩ ⟨"ThinSeries$Tokens", "readNumber", "()V"⟩ ∈ tb := tb_at 16 (by decide +kernel)
theorem q_17 : Cond.selects "ThinSeries$PlanReader" ⟨"ThinSeries$PlanReader", "readClause", "(LThinSeries$Plan;)Z"⟩ ⟨"ThinSeries$PlanReader", "readClause", "(LThinSeries$Plan;)Z"⟩ ∈ tb := tb_at 17 (by decide +kernel)
theorem q_18 : Cond.selects "ThinSeries$PlanReader" ⟨"ThinSeries$PlanReader", "readTier", "(LThinSeries$Plan;)Z"⟩ ⟨"ThinSeries$PlanReader", "readTier", "(LThinSeries$Plan;)Z"⟩ ∈ tb := tb_at 18 (by decide +kernel)
theorem q_19 : Cond.selects "ThinSeries$PlanReader" ⟨"ThinSeries$PlanReader", "readTest", "(LThinSeries$Alarm;I)Z"⟩ ⟨"ThinSeries$PlanReader", "readTest", "(LThinSeries$Alarm;I)Z"⟩ ∈ tb := tb_at 19 (by decide +kernel)
theorem q_20 : Cond.selects "ThinSeries$PlanReader" ⟨"ThinSeries$PlanReader", "readUnit", "(LThinSeries$Alarm;I)Z"⟩ ⟨"ThinSeries$PlanReader", "readUnit", "(LThinSeries$Alarm;I)Z"⟩ ∈ tb := tb_at 20 (by decide +kernel)
theorem q_21 : Cond.selects "ThinSeries$Alarm" ⟨"ThinSeries$Alarm", "addStep", "(II)V"⟩ ⟨"ThinSeries$Alarm", "addStep", "(II)V"⟩ ∈ tb := tb_at 21 (by decide +kernel)
theorem q_22 : Cond.selects "ThinSeries$PlanReader" ⟨"ThinSeries$PlanReader", "factHere", "()I"⟩ ⟨"ThinSeries$PlanReader", "factHere", "()I"⟩ ∈ tb := tb_at 22 (by decide +kernel)
theorem q_23 : Cond.selects "ThinSeries$PlanReader" ⟨"ThinSeries$PlanReader", "relationHere", "()I"⟩ ⟨"ThinSeries$PlanReader", "relationHere", "()I"⟩ ∈ tb := tb_at 23 (by decide +kernel)
theorem q_24 : Cond.selects "ThinSeries$BatchReader" ⟨"ThinSeries$BatchReader", "readLine", "()Z"⟩ ⟨"ThinSeries$BatchReader", "readLine", "()Z"⟩ ∈ tb := tb_at 24 (by decide +kernel)
theorem q_25 : Cond.selects "ThinSeries$BatchReader" ⟨"ThinSeries$BatchReader", "kindHere", "()I"⟩ ⟨"ThinSeries$BatchReader", "kindHere", "()I"⟩ ∈ tb := tb_at 25 (by decide +kernel)
theorem q_26 : Cond.selects "ThinSeries" ⟨"ThinSeries", "allLinesWouldGo", "()Z"⟩ ⟨"ThinSeries", "allLinesWouldGo", "()Z"⟩ ∈ tb := tb_at 26 (by decide +kernel)
theorem q_27 : Cond.selects "ThinSeries" ⟨"ThinSeries", "carryOut", "(I)V"⟩ ⟨"ThinSeries", "carryOut", "(I)V"⟩ ∈ tb := tb_at 27 (by decide +kernel)
theorem q_28 : Cond.selects "ThinSeries" ⟨"ThinSeries", "needTier", "(I)V"⟩ ⟨"ThinSeries", "needTier", "(I)V"⟩ ∈ tb := tb_at 28 (by decide +kernel)
theorem q_29 : Cond.selects "ThinSeries" ⟨"ThinSeries", "known", "(I)LThinSeries$Series;"⟩ ⟨"ThinSeries", "known", "(I)LThinSeries$Series;"⟩ ∈ tb := tb_at 29 (by decide +kernel)
theorem q_30 : Cond.selects "ThinSeries" ⟨"ThinSeries", "tallyStretch", "(LThinSeries$Series;II)V"⟩ ⟨"ThinSeries", "tallyStretch", "(LThinSeries$Series;II)V"⟩ ∈ tb := tb_at 30 (by decide +kernel)
theorem q_31 : Cond.selects "ThinSeries$Alarm" ⟨"ThinSeries$Alarm", "compares", "(ILThinSeries$Series;I)Z"⟩ ⟨"ThinSeries$Alarm", "compares", "(ILThinSeries$Series;I)Z"⟩ ∈ tb := tb_at 31 (by decide +kernel)
theorem q_32 : Cond.selects "ThinSeries$Series" ⟨"ThinSeries$Series", "isBesideTheOneAhead", "(I)Z"⟩ ⟨"ThinSeries$Series", "isBesideTheOneAhead", "(I)Z"⟩ ∈ tb := tb_at 32 (by decide +kernel)
theorem q_33 : Cond.selects "ThinSeries" ⟨"ThinSeries", "surveyBoth", "(LThinSeries$Series;LThinSeries$Series;)V"⟩ ⟨"ThinSeries", "surveyBoth", "(LThinSeries$Series;LThinSeries$Series;)V"⟩ ∈ tb := tb_at 33 (by decide +kernel)
theorem q_34 : Cond.selects "ThinSeriesModel" ⟨"ThinSeriesModel", "fail", "(I)I"⟩ ⟨"ThinSeriesModel", "fail", "(I)I"⟩ ∈ tb := tb_at 34 (by decide +kernel)
theorem q_35 : Cond.selects "ThinSeriesModel" ⟨"ThinSeriesModel", "begin", "(I)V"⟩ ⟨"ThinSeriesModel", "begin", "(I)V"⟩ ∈ tb := tb_at 35 (by decide +kernel)
theorem q_36 : Cond.selects "ThinSeriesModel" ⟨"ThinSeriesModel", "stepOn", "()V"⟩ ⟨"ThinSeriesModel", "stepOn", "()V"⟩ ∈ tb := tb_at 36 (by decide +kernel)
theorem q_37 : Cond.selects "ThinSeriesModel" ⟨"ThinSeriesModel", "byteAt", "(I)I"⟩ ⟨"ThinSeriesModel", "byteAt", "(I)I"⟩ ∈ tb := tb_at 37 (by decide +kernel)
theorem q_38 : Cond.selects "ThinSeriesModel" ⟨"ThinSeriesModel", "readClause", "()V"⟩ ⟨"ThinSeriesModel", "readClause", "()V"⟩ ∈ tb := tb_at 38 (by decide +kernel)
theorem q_39 : Cond.selects "ThinSeriesModel" ⟨"ThinSeriesModel", "which", "([Ljava/lang/String;)I"⟩ ⟨"ThinSeriesModel", "which", "([Ljava/lang/String;)I"⟩ ∈ tb := tb_at 39 (by decide +kernel)
theorem q_40 : Cond.selects "ThinSeriesModel" ⟨"ThinSeriesModel", "is", "(Ljava/lang/String;)Z"⟩ ⟨"ThinSeriesModel", "is", "(Ljava/lang/String;)Z"⟩ ∈ tb := tb_at 40 (by decide +kernel)
theorem q_41 : Cond.selects "ThinSeriesModel" ⟨"ThinSeriesModel", "wrong", "(I)V"⟩ ⟨"ThinSeriesModel", "wrong", "(I)V"⟩ ∈ tb := tb_at 41 (by decide +kernel)
theorem q_42 : Cond.selects "ThinSeriesModel" ⟨"ThinSeriesModel", "pass", "()V"⟩ ⟨"ThinSeriesModel", "pass", "()V"⟩ ∈ tb := tb_at 42 (by decide +kernel)
theorem q_43 : Cond.selects "ThinSeriesModel" ⟨"ThinSeriesModel", "readTier", "()V"⟩ ⟨"ThinSeriesModel", "readTier", "()V"⟩ ∈ tb := tb_at 43 (by decide +kernel)
theorem q_44 : Cond.selects "ThinSeriesModel" ⟨"ThinSeriesModel", "numberNow", "(III)I"⟩ ⟨"ThinSeriesModel", "numberNow", "(III)I"⟩ ∈ tb := tb_at 44 (by decide +kernel)
theorem q_45 : Cond.selects "ThinSeriesModel" ⟨"ThinSeriesModel", "readNumber", "(II)I"⟩ ⟨"ThinSeriesModel", "readNumber", "(II)I"⟩ ∈ tb := tb_at 45 (by decide +kernel)
theorem q_46 : Cond.selects "ThinSeriesModel" ⟨"ThinSeriesModel", "readTest", "(I)V"⟩ ⟨"ThinSeriesModel", "readTest", "(I)V"⟩ ∈ tb := tb_at 46 (by decide +kernel)
theorem q_47 : Cond.selects "ThinSeriesModel" ⟨"ThinSeriesModel", "readAll", "(I)V"⟩ ⟨"ThinSeriesModel", "readAll", "(I)V"⟩ ∈ tb := tb_at 47 (by decide +kernel)
theorem q_48 : Cond.selects "ThinSeriesModel" ⟨"ThinSeriesModel", "readUnit", "(I)V"⟩ ⟨"ThinSeriesModel", "readUnit", "(I)V"⟩ ∈ tb := tb_at 48 (by decide +kernel)
theorem q_49 : Cond.selects "ThinSeriesModel" ⟨"ThinSeriesModel", "isMarked", "(I)Z"⟩ ⟨"ThinSeriesModel", "isMarked", "(I)Z"⟩ ∈ tb := tb_at 49 (by decide +kernel)
theorem q_50 : Cond.selects "ThinSeriesModel" ⟨"ThinSeriesModel", "lay", "(I)V"⟩ ⟨"ThinSeriesModel", "lay", "(I)V"⟩ ∈ tb := tb_at 50 (by decide +kernel)
theorem q_51 : Cond.selects "ThinSeriesModel" ⟨"ThinSeriesModel", "mark", "(I)V"⟩ ⟨"ThinSeriesModel", "mark", "(I)V"⟩ ∈ tb := tb_at 51 (by decide +kernel)
theorem q_52 : Cond.selects "ThinSeriesModel" ⟨"ThinSeriesModel", "readSigned", "(II)I"⟩ ⟨"ThinSeriesModel", "readSigned", "(II)I"⟩ ∈ tb := tb_at 52 (by decide +kernel)
theorem q_53 : Cond.selects "ThinSeriesModel" ⟨"ThinSeriesModel", "ended", "()I"⟩ ⟨"ThinSeriesModel", "ended", "()I"⟩ ∈ tb := tb_at 53 (by decide +kernel)
theorem q_54 : Cond.selects "ThinSeriesModel" ⟨"ThinSeriesModel", "fine", "()V"⟩ ⟨"ThinSeriesModel", "fine", "()V"⟩ ∈ tb := tb_at 54 (by decide +kernel)
theorem q_55 : Cond.selects "ThinSeriesModel" ⟨"ThinSeriesModel", "refuse", "(I)I"⟩ ⟨"ThinSeriesModel", "refuse", "(I)I"⟩ ∈ tb := tb_at 55 (by decide +kernel)
theorem q_56 : Cond.selects "ThinSeriesModel" ⟨"ThinSeriesModel", "isLate", "(II)Z"⟩ ⟨"ThinSeriesModel", "isLate", "(II)Z"⟩ ∈ tb := tb_at 56 (by decide +kernel)
theorem q_57 : Cond.selects "ThinSeriesModel" ⟨"ThinSeriesModel", "lastSeam", "(I)I"⟩ ⟨"ThinSeriesModel", "lastSeam", "(I)I"⟩ ∈ tb := tb_at 57 (by decide +kernel)
theorem q_58 : Cond.selects "ThinSeriesModel" ⟨"ThinSeriesModel", "seamBy", "(II)I"⟩ ⟨"ThinSeriesModel", "seamBy", "(II)I"⟩ ∈ tb := tb_at 58 (by decide +kernel)
theorem q_59 : Cond.selects "ThinSeriesModel" ⟨"ThinSeriesModel", "isLateBy", "(II)V"⟩ ⟨"ThinSeriesModel", "isLateBy", "(II)V"⟩ ∈ tb := tb_at 59 (by decide +kernel)
theorem q_60 : Cond.selects "ThinSeriesModel" ⟨"ThinSeriesModel", "puts", "(III)V"⟩ ⟨"ThinSeriesModel", "puts", "(III)V"⟩ ∈ tb := tb_at 60 (by decide +kernel)
theorem q_61 : Cond.selects "ThinSeriesModel" ⟨"ThinSeriesModel", "rises", "(II)V"⟩ ⟨"ThinSeriesModel", "rises", "(II)V"⟩ ∈ tb := tb_at 61 (by decide +kernel)
theorem q_62 : Cond.selects "ThinSeriesModel" ⟨"ThinSeriesModel", "series", "()I"⟩ ⟨"ThinSeriesModel", "series", "()I"⟩ ∈ tb := tb_at 62 (by decide +kernel)
theorem q_63 : Cond.selects "ThinSeriesModel" ⟨"ThinSeriesModel", "oldest", "()I"⟩ ⟨"ThinSeriesModel", "oldest", "()I"⟩ ∈ tb := tb_at 63 (by decide +kernel)
theorem q_64 : Cond.selects "ThinSeriesModel" ⟨"ThinSeriesModel", "leaves", "(I)I"⟩ ⟨"ThinSeriesModel", "leaves", "(I)I"⟩ ∈ tb := tb_at 64 (by decide +kernel)
theorem q_65 : Cond.selects "ThinSeriesModel" ⟨"ThinSeriesModel", "firstOf", "(I)I"⟩ ⟨"ThinSeriesModel", "firstOf", "(I)I"⟩ ∈ tb := tb_at 65 (by decide +kernel)
theorem q_66 : Cond.selects "ThinSeriesModel" ⟨"ThinSeriesModel", "placeOf", "(IJ)I"⟩ ⟨"ThinSeriesModel", "placeOf", "(IJ)I"⟩ ∈ tb := tb_at 66 (by decide +kernel)
theorem q_67 : Cond.selects "ThinSeriesModel" ⟨"ThinSeriesModel", "behindOf", "(I)I"⟩ ⟨"ThinSeriesModel", "behindOf", "(I)I"⟩ ∈ tb := tb_at 67 (by decide +kernel)
theorem q_68 : Cond.selects "ThinSeriesModel" ⟨"ThinSeriesModel", "goes", "(II)I"⟩ ⟨"ThinSeriesModel", "goes", "(II)I"⟩ ∈ tb := tb_at 68 (by decide +kernel)
theorem q_69 : Cond.selects "ThinSeriesModel" ⟨"ThinSeriesModel", "comes", "(III)V"⟩ ⟨"ThinSeriesModel", "comes", "(III)V"⟩ ∈ tb := tb_at 69 (by decide +kernel)
theorem q_70 : Cond.selects "ThinSeriesModel" ⟨"ThinSeriesModel", "tierBy", "(II)I"⟩ ⟨"ThinSeriesModel", "tierBy", "(II)I"⟩ ∈ tb := tb_at 70 (by decide +kernel)
theorem q_71 : Cond.selects "ThinSeriesModel" ⟨"ThinSeriesModel", "allBuckets", "(I)I"⟩ ⟨"ThinSeriesModel", "allBuckets", "(I)I"⟩ ∈ tb := tb_at 71 (by decide +kernel)
theorem q_72 : Cond.selects "ThinSeriesModel" ⟨"ThinSeriesModel", "bucketFrom", "(I)I"⟩ ⟨"ThinSeriesModel", "bucketFrom", "(I)I"⟩ ∈ tb := tb_at 72 (by decide +kernel)
theorem q_73 : Cond.selects "ThinSeriesModel" ⟨"ThinSeriesModel", "readLine", "()V"⟩ ⟨"ThinSeriesModel", "readLine", "()V"⟩ ∈ tb := tb_at 73 (by decide +kernel)
theorem q_74 : Cond.selects "ThinSeriesModel" ⟨"ThinSeriesModel", "laysAside", "()V"⟩ ⟨"ThinSeriesModel", "laysAside", "()V"⟩ ∈ tb := tb_at 74 (by decide +kernel)
theorem q_75 : Cond.selects "ThinSeriesModel" ⟨"ThinSeriesModel", "does", "(IIII)I"⟩ ⟨"ThinSeriesModel", "does", "(IIII)I"⟩ ∈ tb := tb_at 75 (by decide +kernel)
theorem q_76 : Cond.selects "ThinSeriesModel" ⟨"ThinSeriesModel", "takesBack", "()V"⟩ ⟨"ThinSeriesModel", "takesBack", "()V"⟩ ∈ tb := tb_at 76 (by decide +kernel)
theorem q_77 : Cond.selects "ThinSeriesModel" ⟨"ThinSeriesModel", "isTier", "(I)Z"⟩ ⟨"ThinSeriesModel", "isTier", "(I)Z"⟩ ∈ tb := tb_at 77 (by decide +kernel)
theorem q_78 : Cond.selects "ThinSeriesModel" ⟨"ThinSeriesModel", "isSeries", "(I)Z"⟩ ⟨"ThinSeriesModel", "isSeries", "(I)Z"⟩ ∈ tb := tb_at 78 (by decide +kernel)
theorem q_79 : Cond.selects "ThinSeriesModel" ⟨"ThinSeriesModel", "allBy", "(II)J"⟩ ⟨"ThinSeriesModel", "allBy", "(II)J"⟩ ∈ tb := tb_at 79 (by decide +kernel)
theorem q_80 : Cond.selects "ThinSeriesModel" ⟨"ThinSeriesModel", "bucketsIn", "(II)I"⟩ ⟨"ThinSeriesModel", "bucketsIn", "(II)I"⟩ ∈ tb := tb_at 80 (by decide +kernel)
theorem q_81 : Cond.selects "ThinSeriesModel" ⟨"ThinSeriesModel", "tierTo", "(II)I"⟩ ⟨"ThinSeriesModel", "tierTo", "(II)I"⟩ ∈ tb := tb_at 81 (by decide +kernel)
theorem q_82 : Cond.selects "ThinSeriesModel" ⟨"ThinSeriesModel", "tierFrom", "(II)I"⟩ ⟨"ThinSeriesModel", "tierFrom", "(II)I"⟩ ∈ tb := tb_at 82 (by decide +kernel)
theorem q_83 : Cond.selects "ThinSeriesModel" ⟨"ThinSeriesModel", "meanNow", "()I"⟩ ⟨"ThinSeriesModel", "meanNow", "()I"⟩ ∈ tb := tb_at 83 (by decide +kernel)
theorem q_84 : Cond.selects "ThinSeriesModel" ⟨"ThinSeriesModel", "totals", "(III)V"⟩ ⟨"ThinSeriesModel", "totals", "(III)V"⟩ ∈ tb := tb_at 84 (by decide +kernel)
theorem q_85 : Cond.selects "ThinSeriesModel" ⟨"ThinSeriesModel", "clears", "()V"⟩ ⟨"ThinSeriesModel", "clears", "()V"⟩ ∈ tb := tb_at 85 (by decide +kernel)
theorem q_86 : Cond.selects "ThinSeriesModel" ⟨"ThinSeriesModel", "adds", "()V"⟩ ⟨"ThinSeriesModel", "adds", "()V"⟩ ∈ tb := tb_at 86 (by decide +kernel)
theorem q_87 : Cond.selects "ThinSeriesModel" ⟨"ThinSeriesModel", "tellAlarms", "(I)V"⟩ ⟨"ThinSeriesModel", "tellAlarms", "(I)V"⟩ ∈ tb := tb_at 87 (by decide +kernel)
theorem q_88 : Cond.selects "ThinSeriesModel" ⟨"ThinSeriesModel", "isAlarmed", "()Z"⟩ ⟨"ThinSeriesModel", "isAlarmed", "()Z"⟩ ∈ tb := tb_at 88 (by decide +kernel)
theorem q_89 : Cond.selects "ThinSeriesModel" ⟨"ThinSeriesModel", "fieldNow", "(I)J"⟩ ⟨"ThinSeriesModel", "fieldNow", "(I)J"⟩ ∈ tb := tb_at 89 (by decide +kernel)
theorem q_90 : Cond.selects "ThinSeriesModel" ⟨"ThinSeriesModel", "bucketsBy", "(II)I"⟩ ⟨"ThinSeriesModel", "bucketsBy", "(II)I"⟩ ∈ tb := tb_at 90 (by decide +kernel)
theorem q_91 : Cond.selects "ThinSeriesModel" ⟨"ThinSeriesModel", "movedBy", "(II)I"⟩ ⟨"ThinSeriesModel", "movedBy", "(II)I"⟩ ∈ tb := tb_at 91 (by decide +kernel)
theorem q_92 : Cond.selects "ThinSeriesModel" ⟨"ThinSeriesModel", "meanOf", "(III)I"⟩ ⟨"ThinSeriesModel", "meanOf", "(III)I"⟩ ∈ tb := tb_at 92 (by decide +kernel)
theorem q_93 : (Jvm.Cond.initialized "ThinSeriesLaw") ∈ tb := tb_at 93 (by decide +kernel)
theorem q_94 : (Jvm.Cond.initialized "ThinSeries") ∈ tb := tb_at 94 (by decide +kernel)
theorem q_95 : (Jvm.Cond.initialized "ThinSeries$Tokens") ∈ tb := tb_at 95 (by decide +kernel)
theorem q_96 : (Jvm.Cond.initialized "ThinSeries$PlanReader") ∈ tb := tb_at 96 (by decide +kernel)
theorem q_97 : (Jvm.Cond.initialized "ThinSeries$BatchReader") ∈ tb := tb_at 97 (by decide +kernel)
theorem q_98 : (Jvm.Cond.initialized "ThinSeries$Roster") ∈ tb := tb_at 98 (by decide +kernel)
theorem q_99 : (Jvm.Cond.initialized "ThinSeries$Tally") ∈ tb := tb_at 99 (by decide +kernel)
theorem q_100 : (Jvm.Cond.initialized "ThinSeries$Plan") ∈ tb := tb_at 100 (by decide +kernel)
theorem q_101 : (Jvm.Cond.initialized "ThinSeries$Alarm") ∈ tb := tb_at 101 (by decide +kernel)
theorem q_102 : (Jvm.Cond.initialized "ThinSeriesModel") ∈ tb := tb_at 102 (by decide +kernel)
theorem q_106 : (Jvm.Cond.initialized "java/lang/IllegalArgumentException") ∈ tb := tb_at 106 (by decide +kernel)
theorem q_107 : (Jvm.Cond.initialized "java/lang/Math") ∈ tb := tb_at 107 (by decide +kernel)
theorem q_108 : (Jvm.Cond.initialized "java/lang/String") ∈ tb := tb_at 108 (by decide +kernel)
theorem q_109 : (Jvm.Cond.initialized "java/lang/StringLatin1") ∈ tb := tb_at 109 (by decide +kernel)
theorem q_111 : (Jvm.Cond.initialized "jdk/internal/util/Preconditions") ∈ tb := tb_at 111 (by decide +kernel)
theorem q_113 : (Jvm.Cond.initialized "ThinSeries$Series") ∈ tb := tb_at 113 (by decide +kernel)
theorem q_114 : (Jvm.Cond.initialized "java/lang/System") ∈ tb := tb_at 114 (by decide +kernel)
theorem q_115 : (Jvm.Cond.initialized "java/util/Arrays") ∈ tb := tb_at 115 (by decide +kernel)
theorem q_116 : (Jvm.Cond.initialized "java/util/NoSuchElementException") ∈ tb := tb_at 116 (by decide +kernel)
theorem q_117 : (Jvm.Cond.classLink "ThinSeriesLaw" (8 : Nat) "ThinSeries") ∈ tb := tb_at 117 (by decide +kernel)
theorem q_118 : (Jvm.Cond.instantiable "ThinSeries" (19 : Nat)) ∈ tb := tb_at 118 (by decide +kernel)
theorem q_119 : (Jvm.Cond.methodLink "ThinSeriesLaw" (77 : Nat) ({ cls := "ThinSeries", name := "<init>", desc := "()V" } : Jvm.MethodName)) ∈ tb := tb_at 119 (by decide +kernel)
theorem q_120 : (Jvm.Cond.instanceMethod ({ cls := "ThinSeries", name := "<init>", desc := "()V" } : Jvm.MethodName)) ∈ tb := tb_at 120 (by decide +kernel)
theorem q_121 : (Jvm.Cond.code ({ cls := "ThinSeries", name := "<init>", desc := "()V" } : Jvm.MethodName) prog_1_method_1_code (1 : Nat) (Option.none : Option Jvm.ClassFile.FieldType)) ∈ tb := tb_at 121 (by decide +kernel)
theorem q_122 : (Jvm.Cond.methodLink "ThinSeries" (1 : Nat) ({ cls := "java/lang/Object", name := "<init>", desc := "()V" } : Jvm.MethodName)) ∈ tb := tb_at 122 (by decide +kernel)
theorem q_123 : (Jvm.Cond.instanceMethod ({ cls := "java/lang/Object", name := "<init>", desc := "()V" } : Jvm.MethodName)) ∈ tb := tb_at 123 (by decide +kernel)
theorem q_124 : (Jvm.Cond.code ({ cls := "java/lang/Object", name := "<init>", desc := "()V" } : Jvm.MethodName) object_method_1_code (1 : Nat) (Option.none : Option Jvm.ClassFile.FieldType)) ∈ tb := tb_at 124 (by decide +kernel)
theorem q_125 : (Jvm.Cond.classLink "ThinSeries" (13 : Nat) "ThinSeries$Tokens") ∈ tb := tb_at 125 (by decide +kernel)
theorem q_126 : (Jvm.Cond.instantiable "ThinSeries$Tokens" (9 : Nat)) ∈ tb := tb_at 126 (by decide +kernel)
theorem q_127 : (Jvm.Cond.methodLink "ThinSeries" (15 : Nat) ({ cls := "ThinSeries$Tokens", name := "<init>", desc := "([B)V" } : Jvm.MethodName)) ∈ tb := tb_at 127 (by decide +kernel)
theorem q_128 : (Jvm.Cond.instanceMethod ({ cls := "ThinSeries$Tokens", name := "<init>", desc := "([B)V" } : Jvm.MethodName)) ∈ tb := tb_at 128 (by decide +kernel)
theorem q_129 : (Jvm.Cond.code ({ cls := "ThinSeries$Tokens", name := "<init>", desc := "([B)V" } : Jvm.MethodName) prog_9_method_1_code (2 : Nat) (Option.none : Option Jvm.ClassFile.FieldType)) ∈ tb := tb_at 129 (by decide +kernel)
theorem q_130 : (Jvm.Cond.methodLink "ThinSeries$Tokens" (3 : Nat) ({ cls := "java/lang/Object", name := "<init>", desc := "()V" } : Jvm.MethodName)) ∈ tb := tb_at 130 (by decide +kernel)
theorem q_131 : (Jvm.Cond.fieldLink "ThinSeries$Tokens" (36 : Nat) "ThinSeries$Tokens" "text" "[B") ∈ tb := tb_at 131 (by decide +kernel)
theorem q_132 : (Jvm.Cond.fieldLink "ThinSeries$Tokens" (9 : Nat) "ThinSeries$Tokens" "length" "I") ∈ tb := tb_at 132 (by decide +kernel)
theorem q_133 : (Jvm.Cond.fieldLink "ThinSeries$Tokens" (15 : Nat) "ThinSeries$Tokens" "from" "I") ∈ tb := tb_at 133 (by decide +kernel)
theorem q_134 : (Jvm.Cond.fieldLink "ThinSeries$Tokens" (18 : Nat) "ThinSeries$Tokens" "to" "I") ∈ tb := tb_at 134 (by decide +kernel)
theorem q_135 : (Jvm.Cond.fieldLink "ThinSeries$Tokens" (21 : Nat) "ThinSeries$Tokens" "kind" "I") ∈ tb := tb_at 135 (by decide +kernel)
theorem q_136 : (Jvm.Cond.fieldLink "ThinSeries$PlanReader" (26 : Nat) "ThinSeries$Tokens" "kind" "I") ∈ tb := tb_at 136 (by decide +kernel)
theorem q_137 : (Jvm.Cond.fieldLink "ThinSeries$BatchReader" (38 : Nat) "ThinSeries$Tokens" "kind" "I") ∈ tb := tb_at 137 (by decide +kernel)
theorem q_138 : (Jvm.Cond.fieldLink "ThinSeries$Tokens" (24 : Nat) "ThinSeries$Tokens" "number" "I") ∈ tb := tb_at 138 (by decide +kernel)
theorem q_139 : (Jvm.Cond.fieldLink "ThinSeries$PlanReader" (91 : Nat) "ThinSeries$Tokens" "number" "I") ∈ tb := tb_at 139 (by decide +kernel)
theorem q_140 : (Jvm.Cond.fieldLink "ThinSeries$Tokens" (27 : Nat) "ThinSeries$Tokens" "taken" "I") ∈ tb := tb_at 140 (by decide +kernel)
theorem q_141 : (Jvm.Cond.fieldLink "ThinSeries$PlanReader" (62 : Nat) "ThinSeries$Tokens" "taken" "I") ∈ tb := tb_at 141 (by decide +kernel)
theorem q_142 : (Jvm.Cond.fieldLink "ThinSeries$BatchReader" (59 : Nat) "ThinSeries$Tokens" "taken" "I") ∈ tb := tb_at 142 (by decide +kernel)
theorem q_143 : (Jvm.Cond.fieldLink "ThinSeries$Tokens" (30 : Nat) "ThinSeries$Tokens" "faultKind" "I") ∈ tb := tb_at 143 (by decide +kernel)
theorem q_144 : (Jvm.Cond.fieldLink "ThinSeries" (116 : Nat) "ThinSeries$Tokens" "faultKind" "I") ∈ tb := tb_at 144 (by decide +kernel)
theorem q_145 : (Jvm.Cond.fieldLink "ThinSeries$Tokens" (33 : Nat) "ThinSeries$Tokens" "faultPlace" "I") ∈ tb := tb_at 145 (by decide +kernel)
theorem q_146 : (Jvm.Cond.fieldLink "ThinSeries" (115 : Nat) "ThinSeries$Tokens" "faultPlace" "I") ∈ tb := tb_at 146 (by decide +kernel)
theorem q_166 : (Jvm.Cond.arrayClass Jvm.ClassFile.FieldType.byte) ∈ tb := tb_at 166 (by decide +kernel)
theorem q_167 : (Jvm.Cond.classLink "ThinSeries" (22 : Nat) "ThinSeries$PlanReader") ∈ tb := tb_at 167 (by decide +kernel)
theorem q_168 : (Jvm.Cond.instantiable "ThinSeries$PlanReader" (1 : Nat)) ∈ tb := tb_at 168 (by decide +kernel)
theorem q_169 : (Jvm.Cond.methodLink "ThinSeries" (24 : Nat) ({ cls := "ThinSeries$PlanReader", name := "<init>", desc := "(LThinSeries$Tokens;)V" } : Jvm.MethodName)) ∈ tb := tb_at 169 (by decide +kernel)
theorem q_170 : (Jvm.Cond.instanceMethod ({ cls := "ThinSeries$PlanReader", name := "<init>", desc := "(LThinSeries$Tokens;)V" } : Jvm.MethodName)) ∈ tb := tb_at 170 (by decide +kernel)
theorem q_171 : (Jvm.Cond.code ({ cls := "ThinSeries$PlanReader", name := "<init>", desc := "(LThinSeries$Tokens;)V" } : Jvm.MethodName) prog_5_method_1_code (2 : Nat) (Option.none : Option Jvm.ClassFile.FieldType)) ∈ tb := tb_at 171 (by decide +kernel)
theorem q_172 : (Jvm.Cond.methodLink "ThinSeries$PlanReader" (3 : Nat) ({ cls := "java/lang/Object", name := "<init>", desc := "()V" } : Jvm.MethodName)) ∈ tb := tb_at 172 (by decide +kernel)
theorem q_173 : (Jvm.Cond.fieldLink "ThinSeries$PlanReader" (9 : Nat) "ThinSeries$PlanReader" "tokens" "LThinSeries$Tokens;") ∈ tb := tb_at 173 (by decide +kernel)
theorem q_177 : (Jvm.Cond.classLink "ThinSeries" (31 : Nat) "ThinSeries$BatchReader") ∈ tb := tb_at 177 (by decide +kernel)
theorem q_178 : (Jvm.Cond.instantiable "ThinSeries$BatchReader" (6 : Nat)) ∈ tb := tb_at 178 (by decide +kernel)
theorem q_179 : (Jvm.Cond.methodLink "ThinSeries" (33 : Nat) ({ cls := "ThinSeries$BatchReader", name := "<init>", desc := "(LThinSeries$Tokens;)V" } : Jvm.MethodName)) ∈ tb := tb_at 179 (by decide +kernel)
theorem q_180 : (Jvm.Cond.instanceMethod ({ cls := "ThinSeries$BatchReader", name := "<init>", desc := "(LThinSeries$Tokens;)V" } : Jvm.MethodName)) ∈ tb := tb_at 180 (by decide +kernel)
theorem q_181 : (Jvm.Cond.code ({ cls := "ThinSeries$BatchReader", name := "<init>", desc := "(LThinSeries$Tokens;)V" } : Jvm.MethodName) prog_3_method_1_code (2 : Nat) (Option.none : Option Jvm.ClassFile.FieldType)) ∈ tb := tb_at 181 (by decide +kernel)
theorem q_182 : (Jvm.Cond.methodLink "ThinSeries$BatchReader" (3 : Nat) ({ cls := "java/lang/Object", name := "<init>", desc := "()V" } : Jvm.MethodName)) ∈ tb := tb_at 182 (by decide +kernel)
theorem q_183 : (Jvm.Cond.fieldLink "ThinSeries$BatchReader" (28 : Nat) "ThinSeries$BatchReader" "tokens" "LThinSeries$Tokens;") ∈ tb := tb_at 183 (by decide +kernel)
theorem q_184 : (Jvm.Cond.fieldLink "ThinSeries$BatchReader" (11 : Nat) "ThinSeries$BatchReader" "kind" "[I") ∈ tb := tb_at 184 (by decide +kernel)
theorem q_185 : (Jvm.Cond.fieldLink "ThinSeries" (373 : Nat) "ThinSeries$BatchReader" "kind" "[I") ∈ tb := tb_at 185 (by decide +kernel)
theorem q_186 : (Jvm.Cond.fieldLink "ThinSeries$BatchReader" (15 : Nat) "ThinSeries$BatchReader" "id" "[I") ∈ tb := tb_at 186 (by decide +kernel)
theorem q_187 : (Jvm.Cond.fieldLink "ThinSeries" (367 : Nat) "ThinSeries$BatchReader" "id" "[I") ∈ tb := tb_at 187 (by decide +kernel)
theorem q_188 : (Jvm.Cond.fieldLink "ThinSeries$BatchReader" (18 : Nat) "ThinSeries$BatchReader" "time" "[I") ∈ tb := tb_at 188 (by decide +kernel)
theorem q_189 : (Jvm.Cond.fieldLink "ThinSeries" (370 : Nat) "ThinSeries$BatchReader" "time" "[I") ∈ tb := tb_at 189 (by decide +kernel)
theorem q_190 : (Jvm.Cond.fieldLink "ThinSeries$BatchReader" (21 : Nat) "ThinSeries$BatchReader" "value" "[I") ∈ tb := tb_at 190 (by decide +kernel)
theorem q_191 : (Jvm.Cond.fieldLink "ThinSeries" (376 : Nat) "ThinSeries$BatchReader" "value" "[I") ∈ tb := tb_at 191 (by decide +kernel)
theorem q_192 : (Jvm.Cond.fieldLink "ThinSeries$BatchReader" (24 : Nat) "ThinSeries$BatchReader" "lines" "I") ∈ tb := tb_at 192 (by decide +kernel)
theorem q_193 : (Jvm.Cond.fieldLink "ThinSeries" (133 : Nat) "ThinSeries$BatchReader" "lines" "I") ∈ tb := tb_at 193 (by decide +kernel)
theorem q_207 : (Jvm.Cond.arrayClass Jvm.ClassFile.FieldType.int) ∈ tb := tb_at 207 (by decide +kernel)
theorem q_208 : (Jvm.Cond.classLink "ThinSeries" (38 : Nat) "ThinSeries$Roster") ∈ tb := tb_at 208 (by decide +kernel)
theorem q_209 : (Jvm.Cond.instantiable "ThinSeries$Roster" (3 : Nat)) ∈ tb := tb_at 209 (by decide +kernel)
theorem q_210 : (Jvm.Cond.methodLinkNest "ThinSeries" (40 : Nat) ({ cls := "ThinSeries$Roster", name := "<init>", desc := "()V" } : Jvm.MethodName) "ThinSeries") ∈ nwL := nw_at 210 (by decide +kernel)
theorem q_211 : (Jvm.Cond.instanceMethod ({ cls := "ThinSeries$Roster", name := "<init>", desc := "()V" } : Jvm.MethodName)) ∈ tb := tb_at 211 (by decide +kernel)
theorem q_212 : (Jvm.Cond.code ({ cls := "ThinSeries$Roster", name := "<init>", desc := "()V" } : Jvm.MethodName) prog_6_method_1_code (1 : Nat) (Option.none : Option Jvm.ClassFile.FieldType)) ∈ tb := tb_at 212 (by decide +kernel)
theorem q_213 : (Jvm.Cond.methodLink "ThinSeries$Roster" (3 : Nat) ({ cls := "java/lang/Object", name := "<init>", desc := "()V" } : Jvm.MethodName)) ∈ tb := tb_at 213 (by decide +kernel)
theorem q_214 : (Jvm.Cond.fieldLink "ThinSeries$Roster" (9 : Nat) "ThinSeries$Roster" "byUse" "[I") ∈ tb := tb_at 214 (by decide +kernel)
theorem q_215 : (Jvm.Cond.fieldLink "ThinSeries" (224 : Nat) "ThinSeries$Roster" "byUse" "[I") ∈ tb := tb_at 215 (by decide +kernel)
theorem q_216 : (Jvm.Cond.fieldLink "ThinSeries$Roster" (15 : Nat) "ThinSeries$Roster" "head" "[I") ∈ tb := tb_at 216 (by decide +kernel)
theorem q_217 : (Jvm.Cond.fieldLink "ThinSeries" (230 : Nat) "ThinSeries$Roster" "head" "[I") ∈ tb := tb_at 217 (by decide +kernel)
theorem q_218 : (Jvm.Cond.fieldLink "ThinSeries$Roster" (18 : Nat) "ThinSeries$Roster" "size" "I") ∈ tb := tb_at 218 (by decide +kernel)
theorem q_219 : (Jvm.Cond.fieldLink "ThinSeries" (207 : Nat) "ThinSeries$Roster" "size" "I") ∈ tb := tb_at 219 (by decide +kernel)
theorem q_227 : (Jvm.Cond.classLink "ThinSeries" (48 : Nat) "ThinSeries$Series") ∈ tb := tb_at 227 (by decide +kernel)
theorem q_228 : (Jvm.Cond.arrayOver (Jvm.ClassFile.FieldType.object "ThinSeries$Series")) ∈ nwL := nw_at 228 (by decide +kernel)
theorem q_229 : (Jvm.Cond.classLink "ThinSeries" (54 : Nat) "ThinSeries$Tally") ∈ tb := tb_at 229 (by decide +kernel)
theorem q_230 : (Jvm.Cond.instantiable "ThinSeries$Tally" (5 : Nat)) ∈ tb := tb_at 230 (by decide +kernel)
theorem q_231 : (Jvm.Cond.methodLinkNest "ThinSeries" (56 : Nat) ({ cls := "ThinSeries$Tally", name := "<init>", desc := "()V" } : Jvm.MethodName) "ThinSeries") ∈ nwL := nw_at 231 (by decide +kernel)
theorem q_232 : (Jvm.Cond.instanceMethod ({ cls := "ThinSeries$Tally", name := "<init>", desc := "()V" } : Jvm.MethodName)) ∈ tb := tb_at 232 (by decide +kernel)
theorem q_233 : (Jvm.Cond.code ({ cls := "ThinSeries$Tally", name := "<init>", desc := "()V" } : Jvm.MethodName) prog_8_method_1_code (1 : Nat) (Option.none : Option Jvm.ClassFile.FieldType)) ∈ tb := tb_at 233 (by decide +kernel)
theorem q_234 : (Jvm.Cond.methodLink "ThinSeries$Tally" (3 : Nat) ({ cls := "java/lang/Object", name := "<init>", desc := "()V" } : Jvm.MethodName)) ∈ tb := tb_at 234 (by decide +kernel)
theorem q_235 : (Jvm.Cond.fieldLink "ThinSeries$Tally" (9 : Nat) "ThinSeries$Tally" "buckets" "I") ∈ tb := tb_at 235 (by decide +kernel)
theorem q_236 : (Jvm.Cond.fieldLink "ThinSeries" (283 : Nat) "ThinSeries$Tally" "buckets" "I") ∈ tb := tb_at 236 (by decide +kernel)
theorem q_237 : (Jvm.Cond.fieldLink "ThinSeries$Tally" (15 : Nat) "ThinSeries$Tally" "points" "I") ∈ tb := tb_at 237 (by decide +kernel)
theorem q_238 : (Jvm.Cond.fieldLink "ThinSeries" (181 : Nat) "ThinSeries$Tally" "points" "I") ∈ tb := tb_at 238 (by decide +kernel)
theorem q_239 : (Jvm.Cond.fieldLink "ThinSeries$Tally" (18 : Nat) "ThinSeries$Tally" "sum" "J") ∈ tb := tb_at 239 (by decide +kernel)
theorem q_240 : (Jvm.Cond.fieldLink "ThinSeries" (245 : Nat) "ThinSeries$Tally" "sum" "J") ∈ tb := tb_at 240 (by decide +kernel)
theorem q_241 : (Jvm.Cond.fieldLink "ThinSeries$Tally" (22 : Nat) "ThinSeries$Tally" "least" "I") ∈ tb := tb_at 241 (by decide +kernel)
theorem q_242 : (Jvm.Cond.fieldLink "ThinSeries" (239 : Nat) "ThinSeries$Tally" "least" "I") ∈ tb := tb_at 242 (by decide +kernel)
theorem q_243 : (Jvm.Cond.fieldLink "ThinSeries$Tally" (25 : Nat) "ThinSeries$Tally" "greatest" "I") ∈ tb := tb_at 243 (by decide +kernel)
theorem q_244 : (Jvm.Cond.fieldLink "ThinSeries" (242 : Nat) "ThinSeries$Tally" "greatest" "I") ∈ tb := tb_at 244 (by decide +kernel)
theorem q_256 : (Jvm.Cond.classLink "ThinSeries" (68 : Nat) "ThinSeries$Plan") ∈ tb := tb_at 256 (by decide +kernel)
theorem q_257 : (Jvm.Cond.instantiable "ThinSeries$Plan" (5 : Nat)) ∈ tb := tb_at 257 (by decide +kernel)
theorem q_258 : (Jvm.Cond.methodLink "ThinSeries" (76 : Nat) ({ cls := "ThinSeries$Plan", name := "<init>", desc := "()V" } : Jvm.MethodName)) ∈ tb := tb_at 258 (by decide +kernel)
theorem q_259 : (Jvm.Cond.instanceMethod ({ cls := "ThinSeries$Plan", name := "<init>", desc := "()V" } : Jvm.MethodName)) ∈ tb := tb_at 259 (by decide +kernel)
theorem q_260 : (Jvm.Cond.code ({ cls := "ThinSeries$Plan", name := "<init>", desc := "()V" } : Jvm.MethodName) prog_4_method_1_code (1 : Nat) (Option.none : Option Jvm.ClassFile.FieldType)) ∈ tb := tb_at 260 (by decide +kernel)
theorem q_261 : (Jvm.Cond.methodLink "ThinSeries$Plan" (3 : Nat) ({ cls := "java/lang/Object", name := "<init>", desc := "()V" } : Jvm.MethodName)) ∈ tb := tb_at 261 (by decide +kernel)
theorem q_262 : (Jvm.Cond.classLink "ThinSeries$Plan" (18 : Nat) "ThinSeries$Alarm") ∈ tb := tb_at 262 (by decide +kernel)
theorem q_263 : (Jvm.Cond.instantiable "ThinSeries$Alarm" (3 : Nat)) ∈ tb := tb_at 263 (by decide +kernel)
theorem q_264 : (Jvm.Cond.methodLinkNest "ThinSeries$Plan" (20 : Nat) ({ cls := "ThinSeries$Alarm", name := "<init>", desc := "()V" } : Jvm.MethodName) "ThinSeries") ∈ nwL := nw_at 264 (by decide +kernel)
theorem q_265 : (Jvm.Cond.instanceMethod ({ cls := "ThinSeries$Alarm", name := "<init>", desc := "()V" } : Jvm.MethodName)) ∈ tb := tb_at 265 (by decide +kernel)
theorem q_266 : (Jvm.Cond.code ({ cls := "ThinSeries$Alarm", name := "<init>", desc := "()V" } : Jvm.MethodName) prog_2_method_1_code (1 : Nat) (Option.none : Option Jvm.ClassFile.FieldType)) ∈ tb := tb_at 266 (by decide +kernel)
theorem q_267 : (Jvm.Cond.methodLink "ThinSeries$Alarm" (1 : Nat) ({ cls := "java/lang/Object", name := "<init>", desc := "()V" } : Jvm.MethodName)) ∈ tb := tb_at 267 (by decide +kernel)
theorem q_268 : (Jvm.Cond.fieldLink "ThinSeries$Alarm" (9 : Nat) "ThinSeries$Alarm" "step" "[I") ∈ tb := tb_at 268 (by decide +kernel)
theorem q_269 : (Jvm.Cond.fieldLink "ThinSeries$Alarm" (13 : Nat) "ThinSeries$Alarm" "number" "[I") ∈ tb := tb_at 269 (by decide +kernel)
theorem q_270 : (Jvm.Cond.fieldLink "ThinSeries$Alarm" (16 : Nat) "ThinSeries$Alarm" "size" "I") ∈ tb := tb_at 270 (by decide +kernel)
theorem q_278 : (Jvm.Cond.methodLink "ThinSeries$Plan" (29 : Nat) ({ cls := "ThinSeries$Plan", name := "takeFirstTiers", desc := "()V" } : Jvm.MethodName)) ∈ tb := tb_at 278 (by decide +kernel)
theorem q_279 : (Jvm.Cond.instanceMethod ({ cls := "ThinSeries$Plan", name := "takeFirstTiers", desc := "()V" } : Jvm.MethodName)) ∈ tb := tb_at 279 (by decide +kernel)
theorem q_280 : (Jvm.Cond.selects "ThinSeries$Plan" ({ cls := "ThinSeries$Plan", name := "takeFirstTiers", desc := "()V" } : Jvm.MethodName) ({ cls := "ThinSeries$Plan", name := "takeFirstTiers", desc := "()V" } : Jvm.MethodName)) ∈ tb := tb_at 280 (by decide +kernel)
theorem q_281 : (Jvm.Cond.code ({ cls := "ThinSeries$Plan", name := "takeFirstTiers", desc := "()V" } : Jvm.MethodName) prog_4_method_3_code (2 : Nat) (Option.none : Option Jvm.ClassFile.FieldType)) ∈ tb := tb_at 281 (by decide +kernel)
theorem q_282 : (Jvm.Cond.fieldLink "ThinSeries$Plan" (38 : Nat) "ThinSeries$Plan" "FIRST_SPANS" "[I") ∈ tb := tb_at 282 (by decide +kernel)
theorem q_284 : (Jvm.Cond.fieldLink "ThinSeries$Plan" (41 : Nat) "ThinSeries$Plan" "FIRST_KEEPS" "[I") ∈ tb := tb_at 284 (by decide +kernel)
theorem q_286 : (Jvm.Cond.fieldLink "ThinSeries$Plan" (11 : Nat) "ThinSeries$Plan" "span" "[I") ∈ tb := tb_at 286 (by decide +kernel)
theorem q_287 : (Jvm.Cond.fieldLink "ThinSeries$Series" (62 : Nat) "ThinSeries$Plan" "span" "[I") ∈ tb := tb_at 287 (by decide +kernel)
theorem q_288 : (Jvm.Cond.fieldLink "ThinSeries" (216 : Nat) "ThinSeries$Plan" "span" "[I") ∈ tb := tb_at 288 (by decide +kernel)
theorem q_289 : (Jvm.Cond.fieldLink "ThinSeries$Plan" (15 : Nat) "ThinSeries$Plan" "keep" "[I") ∈ tb := tb_at 289 (by decide +kernel)
theorem q_290 : (Jvm.Cond.fieldLink "ThinSeries" (219 : Nat) "ThinSeries$Plan" "keep" "[I") ∈ tb := tb_at 290 (by decide +kernel)
theorem q_291 : (Jvm.Cond.fieldLink "ThinSeries$Plan" (21 : Nat) "ThinSeries$Plan" "alarm" "LThinSeries$Alarm;") ∈ tb := tb_at 291 (by decide +kernel)
theorem q_292 : (Jvm.Cond.fieldLink "ThinSeries$PlanReader" (69 : Nat) "ThinSeries$Plan" "alarm" "LThinSeries$Alarm;") ∈ tb := tb_at 292 (by decide +kernel)
theorem q_293 : (Jvm.Cond.fieldLink "ThinSeries" (198 : Nat) "ThinSeries$Plan" "alarm" "LThinSeries$Alarm;") ∈ tb := tb_at 293 (by decide +kernel)
theorem q_294 : (Jvm.Cond.fieldLink "ThinSeries$Series" (112 : Nat) "ThinSeries$Plan" "alarm" "LThinSeries$Alarm;") ∈ tb := tb_at 294 (by decide +kernel)
theorem q_295 : (Jvm.Cond.fieldLink "ThinSeries$Plan" (32 : Nat) "ThinSeries$Plan" "tiers" "I") ∈ tb := tb_at 295 (by decide +kernel)
theorem q_296 : (Jvm.Cond.fieldLink "ThinSeries$PlanReader" (38 : Nat) "ThinSeries$Plan" "tiers" "I") ∈ tb := tb_at 296 (by decide +kernel)
theorem q_297 : (Jvm.Cond.fieldLink "ThinSeries" (192 : Nat) "ThinSeries$Plan" "tiers" "I") ∈ tb := tb_at 297 (by decide +kernel)
theorem q_298 : (Jvm.Cond.fieldLink "ThinSeries$Plan" (25 : Nat) "ThinSeries$Plan" "most" "I") ∈ tb := tb_at 298 (by decide +kernel)
theorem q_299 : (Jvm.Cond.fieldLink "ThinSeries$PlanReader" (65 : Nat) "ThinSeries$Plan" "most" "I") ∈ tb := tb_at 299 (by decide +kernel)
theorem q_300 : (Jvm.Cond.fieldLink "ThinSeries" (195 : Nat) "ThinSeries$Plan" "most" "I") ∈ tb := tb_at 300 (by decide +kernel)
theorem q_312 : (Jvm.Cond.fieldLink "ThinSeries" (9 : Nat) "ThinSeries" "tape" "[B") ∈ tb := tb_at 312 (by decide +kernel)
theorem q_313 : (Jvm.Cond.fieldLink "ThinSeries" (18 : Nat) "ThinSeries" "tokens" "LThinSeries$Tokens;") ∈ tb := tb_at 313 (by decide +kernel)
theorem q_314 : (Jvm.Cond.fieldLink "ThinSeries" (27 : Nat) "ThinSeries" "planReader" "LThinSeries$PlanReader;") ∈ tb := tb_at 314 (by decide +kernel)
theorem q_315 : (Jvm.Cond.fieldLink "ThinSeries" (34 : Nat) "ThinSeries" "batchReader" "LThinSeries$BatchReader;") ∈ tb := tb_at 315 (by decide +kernel)
theorem q_316 : (Jvm.Cond.fieldLink "ThinSeries" (41 : Nat) "ThinSeries" "roster" "LThinSeries$Roster;") ∈ tb := tb_at 316 (by decide +kernel)
theorem q_317 : (Jvm.Cond.fieldLink "ThinSeries" (45 : Nat) "ThinSeries" "trial" "LThinSeries$Roster;") ∈ tb := tb_at 317 (by decide +kernel)
theorem q_318 : (Jvm.Cond.fieldLink "ThinSeries" (50 : Nat) "ThinSeries" "rows" "[LThinSeries$Series;") ∈ tb := tb_at 318 (by decide +kernel)
theorem q_319 : (Jvm.Cond.fieldLink "ThinSeries" (57 : Nat) "ThinSeries" "inside" "LThinSeries$Tally;") ∈ tb := tb_at 319 (by decide +kernel)
theorem q_320 : (Jvm.Cond.fieldLink "ThinSeries" (61 : Nat) "ThinSeries" "partly" "LThinSeries$Tally;") ∈ tb := tb_at 320 (by decide +kernel)
theorem q_321 : (Jvm.Cond.fieldLink "ThinSeries" (64 : Nat) "ThinSeries" "answers" "[I") ∈ tb := tb_at 321 (by decide +kernel)
theorem q_322 : (Jvm.Cond.fieldLink "ThinSeries" (70 : Nat) "ThinSeries" "trialSeams" "[I") ∈ tb := tb_at 322 (by decide +kernel)
theorem q_323 : (Jvm.Cond.fieldLink "ThinSeries" (73 : Nat) "ThinSeries" "latestWhy" "[I") ∈ tb := tb_at 323 (by decide +kernel)
theorem q_324 : (Jvm.Cond.fieldLink "ThinSeries" (77 : Nat) "ThinSeries" "plan" "LThinSeries$Plan;") ∈ tb := tb_at 324 (by decide +kernel)
theorem q_325 : (Jvm.Cond.fieldLink "ThinSeries" (81 : Nat) "ThinSeries" "sparePlan" "LThinSeries$Plan;") ∈ tb := tb_at 325 (by decide +kernel)
theorem q_326 : (Jvm.Cond.fieldLink "ThinSeries" (84 : Nat) "ThinSeries" "tapeLength" "I") ∈ tb := tb_at 326 (by decide +kernel)
theorem q_327 : (Jvm.Cond.fieldLink "ThinSeries" (88 : Nat) "ThinSeries" "faultPlace" "I") ∈ tb := tb_at 327 (by decide +kernel)
theorem q_328 : (Jvm.Cond.fieldLink "ThinSeries" (91 : Nat) "ThinSeries" "pushedOut" "I") ∈ tb := tb_at 328 (by decide +kernel)
theorem q_329 : (Jvm.Cond.fieldLink "ThinSeries" (94 : Nat) "ThinSeries" "lateEver" "I") ∈ tb := tb_at 329 (by decide +kernel)
theorem q_330 : (Jvm.Cond.fieldLink "ThinSeries" (97 : Nat) "ThinSeries" "lostEver" "I") ∈ tb := tb_at 330 (by decide +kernel)
theorem q_370 : (Jvm.Cond.methodLink "ThinSeriesLaw" (81 : Nat) ({ cls := "ThinSeries", name := "feed", desc := "(IIIII)I" } : Jvm.MethodName)) ∈ tb := tb_at 370 (by decide +kernel)
theorem q_371 : (Jvm.Cond.instanceMethod ({ cls := "ThinSeries", name := "feed", desc := "(IIIII)I" } : Jvm.MethodName)) ∈ tb := tb_at 371 (by decide +kernel)
theorem q_372 : (Jvm.Cond.selects "ThinSeries" ({ cls := "ThinSeries", name := "feed", desc := "(IIIII)I" } : Jvm.MethodName) ({ cls := "ThinSeries", name := "feed", desc := "(IIIII)I" } : Jvm.MethodName)) ∈ tb := tb_at 372 (by decide +kernel)
theorem q_373 : (Jvm.Cond.code ({ cls := "ThinSeries", name := "feed", desc := "(IIIII)I" } : Jvm.MethodName) prog_1_method_2_code (6 : Nat) (Option.some Jvm.ClassFile.FieldType.int)) ∈ tb := tb_at 373 (by decide +kernel)
theorem q_374 : (Jvm.Cond.methodLink "ThinSeries" (100 : Nat) ({ cls := "ThinSeries", name := "appendToTape", desc := "(I)V" } : Jvm.MethodName)) ∈ tb := tb_at 374 (by decide +kernel)
theorem q_376 : (Jvm.Cond.instanceMethod ({ cls := "ThinSeries", name := "appendToTape", desc := "(I)V" } : Jvm.MethodName)) ∈ tb := tb_at 376 (by decide +kernel)
theorem q_377 : (Jvm.Cond.code ({ cls := "ThinSeries", name := "appendToTape", desc := "(I)V" } : Jvm.MethodName) prog_1_method_27_code (3 : Nat) (Option.none : Option Jvm.ClassFile.FieldType)) ∈ tb := tb_at 377 (by decide +kernel)
theorem q_378 : (Jvm.Cond.methodLink "ThinSeriesLaw" (99 : Nat) ({ cls := "ThinSeries", name := "fault", desc := "()I" } : Jvm.MethodName)) ∈ tb := tb_at 378 (by decide +kernel)
theorem q_379 : (Jvm.Cond.instanceMethod ({ cls := "ThinSeries", name := "fault", desc := "()I" } : Jvm.MethodName)) ∈ tb := tb_at 379 (by decide +kernel)
theorem q_380 : (Jvm.Cond.selects "ThinSeries" ({ cls := "ThinSeries", name := "fault", desc := "()I" } : Jvm.MethodName) ({ cls := "ThinSeries", name := "fault", desc := "()I" } : Jvm.MethodName)) ∈ tb := tb_at 380 (by decide +kernel)
theorem q_381 : (Jvm.Cond.code ({ cls := "ThinSeries", name := "fault", desc := "()I" } : Jvm.MethodName) prog_1_method_5_code (1 : Nat) (Option.some Jvm.ClassFile.FieldType.int)) ∈ tb := tb_at 381 (by decide +kernel)
theorem q_382 : (Jvm.Cond.methodLink "ThinSeriesLaw" (103 : Nat) ({ cls := "ThinSeries", name := "put", desc := "(III)I" } : Jvm.MethodName)) ∈ tb := tb_at 382 (by decide +kernel)
theorem q_383 : (Jvm.Cond.instanceMethod ({ cls := "ThinSeries", name := "put", desc := "(III)I" } : Jvm.MethodName)) ∈ tb := tb_at 383 (by decide +kernel)
theorem q_384 : (Jvm.Cond.selects "ThinSeries" ({ cls := "ThinSeries", name := "put", desc := "(III)I" } : Jvm.MethodName) ({ cls := "ThinSeries", name := "put", desc := "(III)I" } : Jvm.MethodName)) ∈ tb := tb_at 384 (by decide +kernel)
theorem q_385 : (Jvm.Cond.code ({ cls := "ThinSeries", name := "put", desc := "(III)I" } : Jvm.MethodName) prog_1_method_6_code (5 : Nat) (Option.some Jvm.ClassFile.FieldType.int)) ∈ tb := tb_at 385 (by decide +kernel)
theorem q_386 : (Jvm.Cond.methodLink "ThinSeries" (139 : Nat) ({ cls := "ThinSeries", name := "isId", desc := "(I)Z" } : Jvm.MethodName)) ∈ tb := tb_at 386 (by decide +kernel)
theorem q_387 : (Jvm.Cond.static ({ cls := "ThinSeries", name := "isId", desc := "(I)Z" } : Jvm.MethodName)) ∈ tb := tb_at 387 (by decide +kernel)
theorem q_388 : (Jvm.Cond.code ({ cls := "ThinSeries", name := "isId", desc := "(I)Z" } : Jvm.MethodName) prog_1_method_28_code (1 : Nat) (Option.some Jvm.ClassFile.FieldType.boolean)) ∈ tb := tb_at 388 (by decide +kernel)
theorem q_389 : (Jvm.Cond.methodLink "ThinSeries" (142 : Nat) ({ cls := "ThinSeries", name := "isTime", desc := "(J)Z" } : Jvm.MethodName)) ∈ tb := tb_at 389 (by decide +kernel)
theorem q_390 : (Jvm.Cond.static ({ cls := "ThinSeries", name := "isTime", desc := "(J)Z" } : Jvm.MethodName)) ∈ tb := tb_at 390 (by decide +kernel)
theorem q_391 : (Jvm.Cond.code ({ cls := "ThinSeries", name := "isTime", desc := "(J)Z" } : Jvm.MethodName) prog_1_method_29_code (2 : Nat) (Option.some Jvm.ClassFile.FieldType.boolean)) ∈ tb := tb_at 391 (by decide +kernel)
theorem q_392 : (Jvm.Cond.constantLong "ThinSeries" (335 : Nat) (-1000000 : Int64)) ∈ tb := tb_at 392 (by decide +kernel)
theorem q_393 : (Jvm.Cond.constantLong "ThinSeries" (337 : Nat) (1000000 : Int64)) ∈ tb := tb_at 393 (by decide +kernel)
theorem q_394 : (Jvm.Cond.methodLink "ThinSeries" (146 : Nat) ({ cls := "ThinSeries", name := "isValue", desc := "(J)Z" } : Jvm.MethodName)) ∈ tb := tb_at 394 (by decide +kernel)
theorem q_395 : (Jvm.Cond.static ({ cls := "ThinSeries", name := "isValue", desc := "(J)Z" } : Jvm.MethodName)) ∈ tb := tb_at 395 (by decide +kernel)
theorem q_396 : (Jvm.Cond.code ({ cls := "ThinSeries", name := "isValue", desc := "(J)Z" } : Jvm.MethodName) prog_1_method_30_code (2 : Nat) (Option.some Jvm.ClassFile.FieldType.boolean)) ∈ tb := tb_at 396 (by decide +kernel)
theorem q_397 : (Jvm.Cond.constantLong "ThinSeries" (339 : Nat) (-10000 : Int64)) ∈ tb := tb_at 397 (by decide +kernel)
theorem q_398 : (Jvm.Cond.constantLong "ThinSeries" (341 : Nat) (10000 : Int64)) ∈ tb := tb_at 398 (by decide +kernel)
theorem q_399 : (Jvm.Cond.methodLink "ThinSeries" (125 : Nat) ({ cls := "ThinSeries", name := "explain", desc := "(IIII)V" } : Jvm.MethodName)) ∈ tb := tb_at 399 (by decide +kernel)
theorem q_401 : (Jvm.Cond.instanceMethod ({ cls := "ThinSeries", name := "explain", desc := "(IIII)V" } : Jvm.MethodName)) ∈ tb := tb_at 401 (by decide +kernel)
theorem q_402 : (Jvm.Cond.code ({ cls := "ThinSeries", name := "explain", desc := "(IIII)V" } : Jvm.MethodName) prog_1_method_35_code (5 : Nat) (Option.none : Option Jvm.ClassFile.FieldType)) ∈ tb := tb_at 402 (by decide +kernel)
theorem q_403 : (Jvm.Cond.methodLink "ThinSeries" (149 : Nat) ({ cls := "ThinSeries", name := "latenessIn", desc := "(LThinSeries$Roster;II)I" } : Jvm.MethodName)) ∈ tb := tb_at 403 (by decide +kernel)
theorem q_405 : (Jvm.Cond.instanceMethod ({ cls := "ThinSeries", name := "latenessIn", desc := "(LThinSeries$Roster;II)I" } : Jvm.MethodName)) ∈ tb := tb_at 405 (by decide +kernel)
theorem q_406 : (Jvm.Cond.code ({ cls := "ThinSeries", name := "latenessIn", desc := "(LThinSeries$Roster;II)I" } : Jvm.MethodName) prog_1_method_36_code (4 : Nat) (Option.some Jvm.ClassFile.FieldType.int)) ∈ tb := tb_at 406 (by decide +kernel)
theorem q_407 : (Jvm.Cond.methodLink "ThinSeries" (167 : Nat) ({ cls := "ThinSeries$Roster", name := "knows", desc := "(I)Z" } : Jvm.MethodName)) ∈ tb := tb_at 407 (by decide +kernel)
theorem q_408 : (Jvm.Cond.instanceMethod ({ cls := "ThinSeries$Roster", name := "knows", desc := "(I)Z" } : Jvm.MethodName)) ∈ tb := tb_at 408 (by decide +kernel)
theorem q_409 : (Jvm.Cond.selects "ThinSeries$Roster" ({ cls := "ThinSeries$Roster", name := "knows", desc := "(I)Z" } : Jvm.MethodName) ({ cls := "ThinSeries$Roster", name := "knows", desc := "(I)Z" } : Jvm.MethodName)) ∈ tb := tb_at 409 (by decide +kernel)
theorem q_410 : (Jvm.Cond.code ({ cls := "ThinSeries$Roster", name := "knows", desc := "(I)Z" } : Jvm.MethodName) prog_6_method_4_code (2 : Nat) (Option.some Jvm.ClassFile.FieldType.boolean)) ∈ tb := tb_at 410 (by decide +kernel)
theorem q_411 : (Jvm.Cond.methodLink "ThinSeries$Roster" (22 : Nat) ({ cls := "ThinSeries$Roster", name := "placeOf", desc := "(I)I" } : Jvm.MethodName)) ∈ tb := tb_at 411 (by decide +kernel)
theorem q_413 : (Jvm.Cond.instanceMethod ({ cls := "ThinSeries$Roster", name := "placeOf", desc := "(I)I" } : Jvm.MethodName)) ∈ tb := tb_at 413 (by decide +kernel)
theorem q_414 : (Jvm.Cond.code ({ cls := "ThinSeries$Roster", name := "placeOf", desc := "(I)I" } : Jvm.MethodName) prog_6_method_7_code (3 : Nat) (Option.some Jvm.ClassFile.FieldType.int)) ∈ tb := tb_at 414 (by decide +kernel)
theorem q_415 : (Jvm.Cond.methodLink "ThinSeries" (348 : Nat) ({ cls := "ThinSeries$Plan", name := "findSeams", desc := "(I[I)V" } : Jvm.MethodName)) ∈ tb := tb_at 415 (by decide +kernel)
theorem q_416 : (Jvm.Cond.instanceMethod ({ cls := "ThinSeries$Plan", name := "findSeams", desc := "(I[I)V" } : Jvm.MethodName)) ∈ tb := tb_at 416 (by decide +kernel)
theorem q_417 : (Jvm.Cond.selects "ThinSeries$Plan" ({ cls := "ThinSeries$Plan", name := "findSeams", desc := "(I[I)V" } : Jvm.MethodName) ({ cls := "ThinSeries$Plan", name := "findSeams", desc := "(I[I)V" } : Jvm.MethodName)) ∈ tb := tb_at 417 (by decide +kernel)
theorem q_418 : (Jvm.Cond.code ({ cls := "ThinSeries$Plan", name := "findSeams", desc := "(I[I)V" } : Jvm.MethodName) prog_4_method_7_code (5 : Nat) (Option.none : Option Jvm.ClassFile.FieldType)) ∈ tb := tb_at 418 (by decide +kernel)
theorem q_419 : (Jvm.Cond.methodLinkNest "ThinSeries$Plan" (48 : Nat) ({ cls := "ThinSeries", name := "multipleUpTo", desc := "(II)I" } : Jvm.MethodName) "ThinSeries") ∈ nwL := nw_at 419 (by decide +kernel)
theorem q_420 : (Jvm.Cond.static ({ cls := "ThinSeries", name := "multipleUpTo", desc := "(II)I" } : Jvm.MethodName)) ∈ tb := tb_at 420 (by decide +kernel)
theorem q_421 : (Jvm.Cond.code ({ cls := "ThinSeries", name := "multipleUpTo", desc := "(II)I" } : Jvm.MethodName) prog_1_method_47_code (2 : Nat) (Option.some Jvm.ClassFile.FieldType.int)) ∈ tb := tb_at 421 (by decide +kernel)
theorem q_422 : (Jvm.Cond.methodLink "ThinSeries" (399 : Nat) ({ cls := "java/lang/Math", name := "floorMod", desc := "(II)I" } : Jvm.MethodName)) ∈ tb := tb_at 422 (by decide +kernel)
theorem q_423 : (Jvm.Cond.static ({ cls := "java/lang/Math", name := "floorMod", desc := "(II)I" } : Jvm.MethodName)) ∈ tb := tb_at 423 (by decide +kernel)
theorem q_424 : (Jvm.Cond.code ({ cls := "java/lang/Math", name := "floorMod", desc := "(II)I" } : Jvm.MethodName) prog_19_method_50_code (3 : Nat) (Option.some Jvm.ClassFile.FieldType.int)) ∈ tb := tb_at 424 (by decide +kernel)
theorem q_425 : (Jvm.Cond.methodLink "ThinSeries" (315 : Nat) ({ cls := "java/lang/Math", name := "max", desc := "(II)I" } : Jvm.MethodName)) ∈ tb := tb_at 425 (by decide +kernel)
theorem q_426 : (Jvm.Cond.static ({ cls := "java/lang/Math", name := "max", desc := "(II)I" } : Jvm.MethodName)) ∈ tb := tb_at 426 (by decide +kernel)
theorem q_427 : (Jvm.Cond.code ({ cls := "java/lang/Math", name := "max", desc := "(II)I" } : Jvm.MethodName) prog_19_method_65_code (2 : Nat) (Option.some Jvm.ClassFile.FieldType.int)) ∈ tb := tb_at 427 (by decide +kernel)
theorem q_428 : (Jvm.Cond.methodLink "ThinSeries" (153 : Nat) ({ cls := "ThinSeries", name := "noteLate", desc := "(I)V" } : Jvm.MethodName)) ∈ tb := tb_at 428 (by decide +kernel)
theorem q_430 : (Jvm.Cond.instanceMethod ({ cls := "ThinSeries", name := "noteLate", desc := "(I)V" } : Jvm.MethodName)) ∈ tb := tb_at 430 (by decide +kernel)
theorem q_431 : (Jvm.Cond.code ({ cls := "ThinSeries", name := "noteLate", desc := "(I)V" } : Jvm.MethodName) prog_1_method_37_code (2 : Nat) (Option.none : Option Jvm.ClassFile.FieldType)) ∈ tb := tb_at 431 (by decide +kernel)
theorem q_432 : (Jvm.Cond.methodLink "ThinSeries" (170 : Nat) ({ cls := "ThinSeries", name := "rowsOf", desc := "(I)LThinSeries$Series;" } : Jvm.MethodName)) ∈ tb := tb_at 432 (by decide +kernel)
theorem q_434 : (Jvm.Cond.instanceMethod ({ cls := "ThinSeries", name := "rowsOf", desc := "(I)LThinSeries$Series;" } : Jvm.MethodName)) ∈ tb := tb_at 434 (by decide +kernel)
theorem q_435 : (Jvm.Cond.code ({ cls := "ThinSeries", name := "rowsOf", desc := "(I)LThinSeries$Series;" } : Jvm.MethodName) prog_1_method_34_code (2 : Nat) (Option.some (Jvm.ClassFile.FieldType.object "ThinSeries$Series"))) ∈ tb := tb_at 435 (by decide +kernel)
theorem q_436 : (Jvm.Cond.instantiable "ThinSeries$Series" (11 : Nat)) ∈ tb := tb_at 436 (by decide +kernel)
theorem q_437 : (Jvm.Cond.methodLink "ThinSeries" (345 : Nat) ({ cls := "ThinSeries$Series", name := "<init>", desc := "(LThinSeries$Plan;)V" } : Jvm.MethodName)) ∈ tb := tb_at 437 (by decide +kernel)
theorem q_438 : (Jvm.Cond.instanceMethod ({ cls := "ThinSeries$Series", name := "<init>", desc := "(LThinSeries$Plan;)V" } : Jvm.MethodName)) ∈ tb := tb_at 438 (by decide +kernel)
theorem q_439 : (Jvm.Cond.code ({ cls := "ThinSeries$Series", name := "<init>", desc := "(LThinSeries$Plan;)V" } : Jvm.MethodName) prog_7_method_1_code (2 : Nat) (Option.none : Option Jvm.ClassFile.FieldType)) ∈ tb := tb_at 439 (by decide +kernel)
theorem q_440 : (Jvm.Cond.methodLink "ThinSeries$Series" (3 : Nat) ({ cls := "java/lang/Object", name := "<init>", desc := "()V" } : Jvm.MethodName)) ∈ tb := tb_at 440 (by decide +kernel)
theorem q_441 : (Jvm.Cond.fieldLink "ThinSeries$Series" (46 : Nat) "ThinSeries$Series" "plan" "LThinSeries$Plan;") ∈ tb := tb_at 441 (by decide +kernel)
theorem q_442 : (Jvm.Cond.fieldLink "ThinSeries$Series" (11 : Nat) "ThinSeries$Series" "seams" "[I") ∈ tb := tb_at 442 (by decide +kernel)
theorem q_443 : (Jvm.Cond.fieldLink "ThinSeries" (249 : Nat) "ThinSeries$Series" "seams" "[I") ∈ tb := tb_at 443 (by decide +kernel)
theorem q_444 : (Jvm.Cond.fieldLink "ThinSeries$Series" (17 : Nat) "ThinSeries$Series" "seamsThen" "[I") ∈ tb := tb_at 444 (by decide +kernel)
theorem q_445 : (Jvm.Cond.fieldLink "ThinSeries$Series" (20 : Nat) "ThinSeries$Series" "start" "[I") ∈ tb := tb_at 445 (by decide +kernel)
theorem q_446 : (Jvm.Cond.fieldLink "ThinSeries$Alarm" (30 : Nat) "ThinSeries$Series" "start" "[I") ∈ tb := tb_at 446 (by decide +kernel)
theorem q_447 : (Jvm.Cond.fieldLink "ThinSeries" (289 : Nat) "ThinSeries$Series" "start" "[I") ∈ tb := tb_at 447 (by decide +kernel)
theorem q_448 : (Jvm.Cond.fieldLink "ThinSeries$Series" (23 : Nat) "ThinSeries$Series" "points" "[I") ∈ tb := tb_at 448 (by decide +kernel)
theorem q_449 : (Jvm.Cond.fieldLink "ThinSeries$Tally" (47 : Nat) "ThinSeries$Series" "points" "[I") ∈ tb := tb_at 449 (by decide +kernel)
theorem q_450 : (Jvm.Cond.fieldLink "ThinSeries$Series" (26 : Nat) "ThinSeries$Series" "sum" "[J") ∈ tb := tb_at 450 (by decide +kernel)
theorem q_451 : (Jvm.Cond.fieldLink "ThinSeries$Tally" (44 : Nat) "ThinSeries$Series" "sum" "[J") ∈ tb := tb_at 451 (by decide +kernel)
theorem q_452 : (Jvm.Cond.fieldLink "ThinSeries$Series" (30 : Nat) "ThinSeries$Series" "least" "[I") ∈ tb := tb_at 452 (by decide +kernel)
theorem q_453 : (Jvm.Cond.fieldLink "ThinSeries$Tally" (28 : Nat) "ThinSeries$Series" "least" "[I") ∈ tb := tb_at 453 (by decide +kernel)
theorem q_454 : (Jvm.Cond.fieldLink "ThinSeries$Series" (33 : Nat) "ThinSeries$Series" "greatest" "[I") ∈ tb := tb_at 454 (by decide +kernel)
theorem q_455 : (Jvm.Cond.fieldLink "ThinSeries$Tally" (39 : Nat) "ThinSeries$Series" "greatest" "[I") ∈ tb := tb_at 455 (by decide +kernel)
theorem q_456 : (Jvm.Cond.fieldLink "ThinSeries$Series" (36 : Nat) "ThinSeries$Series" "size" "I") ∈ tb := tb_at 456 (by decide +kernel)
theorem q_457 : (Jvm.Cond.fieldLink "ThinSeries" (164 : Nat) "ThinSeries$Series" "size" "I") ∈ tb := tb_at 457 (by decide +kernel)
theorem q_458 : (Jvm.Cond.fieldLink "ThinSeries$Series" (40 : Nat) "ThinSeries$Series" "late" "I") ∈ tb := tb_at 458 (by decide +kernel)
theorem q_459 : (Jvm.Cond.fieldLink "ThinSeries" (233 : Nat) "ThinSeries$Series" "late" "I") ∈ tb := tb_at 459 (by decide +kernel)
theorem q_460 : (Jvm.Cond.fieldLink "ThinSeries$Series" (43 : Nat) "ThinSeries$Series" "lost" "I") ∈ tb := tb_at 460 (by decide +kernel)
theorem q_461 : (Jvm.Cond.fieldLink "ThinSeries" (236 : Nat) "ThinSeries$Series" "lost" "I") ∈ tb := tb_at 461 (by decide +kernel)
theorem q_485 : (Jvm.Cond.arrayClass Jvm.ClassFile.FieldType.long) ∈ tb := tb_at 485 (by decide +kernel)
theorem q_486 : (Jvm.Cond.methodLink "ThinSeries" (156 : Nat) ({ cls := "ThinSeries", name := "place", desc := "(III)I" } : Jvm.MethodName)) ∈ tb := tb_at 486 (by decide +kernel)
theorem q_488 : (Jvm.Cond.instanceMethod ({ cls := "ThinSeries", name := "place", desc := "(III)I" } : Jvm.MethodName)) ∈ tb := tb_at 488 (by decide +kernel)
theorem q_489 : (Jvm.Cond.code ({ cls := "ThinSeries", name := "place", desc := "(III)I" } : Jvm.MethodName) prog_1_method_39_code (5 : Nat) (Option.some Jvm.ClassFile.FieldType.int)) ∈ tb := tb_at 489 (by decide +kernel)
theorem q_490 : (Jvm.Cond.methodLink "ThinSeries" (160 : Nat) ({ cls := "ThinSeries", name := "bring", desc := "(II)LThinSeries$Series;" } : Jvm.MethodName)) ∈ tb := tb_at 490 (by decide +kernel)
theorem q_492 : (Jvm.Cond.instanceMethod ({ cls := "ThinSeries", name := "bring", desc := "(II)LThinSeries$Series;" } : Jvm.MethodName)) ∈ tb := tb_at 492 (by decide +kernel)
theorem q_493 : (Jvm.Cond.code ({ cls := "ThinSeries", name := "bring", desc := "(II)LThinSeries$Series;" } : Jvm.MethodName) prog_1_method_38_code (5 : Nat) (Option.some (Jvm.ClassFile.FieldType.object "ThinSeries$Series"))) ∈ tb := tb_at 493 (by decide +kernel)
theorem q_494 : (Jvm.Cond.methodLink "ThinSeries" (351 : Nat) ({ cls := "ThinSeries$Roster", name := "use", desc := "(III)I" } : Jvm.MethodName)) ∈ tb := tb_at 494 (by decide +kernel)
theorem q_495 : (Jvm.Cond.instanceMethod ({ cls := "ThinSeries$Roster", name := "use", desc := "(III)I" } : Jvm.MethodName)) ∈ tb := tb_at 495 (by decide +kernel)
theorem q_496 : (Jvm.Cond.selects "ThinSeries$Roster" ({ cls := "ThinSeries$Roster", name := "use", desc := "(III)I" } : Jvm.MethodName) ({ cls := "ThinSeries$Roster", name := "use", desc := "(III)I" } : Jvm.MethodName)) ∈ tb := tb_at 496 (by decide +kernel)
theorem q_497 : (Jvm.Cond.code ({ cls := "ThinSeries$Roster", name := "use", desc := "(III)I" } : Jvm.MethodName) prog_6_method_5_code (7 : Nat) (Option.some Jvm.ClassFile.FieldType.int)) ∈ tb := tb_at 497 (by decide +kernel)
theorem q_498 : (Jvm.Cond.methodLink "ThinSeries$Roster" (26 : Nat) ({ cls := "java/lang/Math", name := "max", desc := "(II)I" } : Jvm.MethodName)) ∈ tb := tb_at 498 (by decide +kernel)
theorem q_499 : (Jvm.Cond.methodLink "ThinSeries" (354 : Nat) ({ cls := "ThinSeries$Series", name := "begin", desc := "(LThinSeries$Plan;I)V" } : Jvm.MethodName)) ∈ tb := tb_at 499 (by decide +kernel)
theorem q_500 : (Jvm.Cond.instanceMethod ({ cls := "ThinSeries$Series", name := "begin", desc := "(LThinSeries$Plan;I)V" } : Jvm.MethodName)) ∈ tb := tb_at 500 (by decide +kernel)
theorem q_501 : (Jvm.Cond.selects "ThinSeries$Series" ({ cls := "ThinSeries$Series", name := "begin", desc := "(LThinSeries$Plan;I)V" } : Jvm.MethodName) ({ cls := "ThinSeries$Series", name := "begin", desc := "(LThinSeries$Plan;I)V" } : Jvm.MethodName)) ∈ tb := tb_at 501 (by decide +kernel)
theorem q_502 : (Jvm.Cond.code ({ cls := "ThinSeries$Series", name := "begin", desc := "(LThinSeries$Plan;I)V" } : Jvm.MethodName) prog_7_method_2_code (3 : Nat) (Option.none : Option Jvm.ClassFile.FieldType)) ∈ tb := tb_at 502 (by decide +kernel)
theorem q_503 : (Jvm.Cond.methodLink "ThinSeries$Series" (50 : Nat) ({ cls := "ThinSeries$Plan", name := "findSeams", desc := "(I[I)V" } : Jvm.MethodName)) ∈ tb := tb_at 503 (by decide +kernel)
theorem q_504 : (Jvm.Cond.methodLink "ThinSeries" (358 : Nat) ({ cls := "ThinSeries$Series", name := "moveTo", desc := "(I)I" } : Jvm.MethodName)) ∈ tb := tb_at 504 (by decide +kernel)
theorem q_505 : (Jvm.Cond.instanceMethod ({ cls := "ThinSeries$Series", name := "moveTo", desc := "(I)I" } : Jvm.MethodName)) ∈ tb := tb_at 505 (by decide +kernel)
theorem q_506 : (Jvm.Cond.selects "ThinSeries$Series" ({ cls := "ThinSeries$Series", name := "moveTo", desc := "(I)I" } : Jvm.MethodName) ({ cls := "ThinSeries$Series", name := "moveTo", desc := "(I)I" } : Jvm.MethodName)) ∈ tb := tb_at 506 (by decide +kernel)
theorem q_507 : (Jvm.Cond.code ({ cls := "ThinSeries$Series", name := "moveTo", desc := "(I)I" } : Jvm.MethodName) prog_7_method_13_code (7 : Nat) (Option.some Jvm.ClassFile.FieldType.int)) ∈ tb := tb_at 507 (by decide +kernel)
theorem q_508 : (Jvm.Cond.methodLink "ThinSeries$Series" (99 : Nat) ({ cls := "java/lang/System", name := "arraycopy", desc := "(Ljava/lang/Object;ILjava/lang/Object;II)V" } : Jvm.MethodName)) ∈ tb := tb_at 508 (by decide +kernel)
theorem q_509 : (Jvm.Cond.static ({ cls := "java/lang/System", name := "arraycopy", desc := "(Ljava/lang/Object;ILjava/lang/Object;II)V" } : Jvm.MethodName)) ∈ tb := tb_at 509 (by decide +kernel)
theorem q_510 : (Jvm.Cond.native ({ cls := "java/lang/System", name := "arraycopy", desc := "(Ljava/lang/Object;ILjava/lang/Object;II)V" } : Jvm.MethodName)) ∈ tb := tb_at 510 (by decide +kernel)
theorem q_511 : (Jvm.Cond.methodLink "ThinSeries$Series" (58 : Nat) ({ cls := "ThinSeries$Series", name := "tierOf", desc := "(I)I" } : Jvm.MethodName)) ∈ tb := tb_at 511 (by decide +kernel)
theorem q_512 : (Jvm.Cond.instanceMethod ({ cls := "ThinSeries$Series", name := "tierOf", desc := "(I)I" } : Jvm.MethodName)) ∈ tb := tb_at 512 (by decide +kernel)
theorem q_513 : (Jvm.Cond.selects "ThinSeries$Series" ({ cls := "ThinSeries$Series", name := "tierOf", desc := "(I)I" } : Jvm.MethodName) ({ cls := "ThinSeries$Series", name := "tierOf", desc := "(I)I" } : Jvm.MethodName)) ∈ tb := tb_at 513 (by decide +kernel)
theorem q_514 : (Jvm.Cond.code ({ cls := "ThinSeries$Series", name := "tierOf", desc := "(I)I" } : Jvm.MethodName) prog_7_method_3_code (2 : Nat) (Option.some Jvm.ClassFile.FieldType.int)) ∈ tb := tb_at 514 (by decide +kernel)
theorem q_515 : (Jvm.Cond.methodLink "ThinSeries$Series" (54 : Nat) ({ cls := "ThinSeries$Plan", name := "tierUnder", desc := "([II)I" } : Jvm.MethodName)) ∈ tb := tb_at 515 (by decide +kernel)
theorem q_516 : (Jvm.Cond.instanceMethod ({ cls := "ThinSeries$Plan", name := "tierUnder", desc := "([II)I" } : Jvm.MethodName)) ∈ tb := tb_at 516 (by decide +kernel)
theorem q_517 : (Jvm.Cond.selects "ThinSeries$Plan" ({ cls := "ThinSeries$Plan", name := "tierUnder", desc := "([II)I" } : Jvm.MethodName) ({ cls := "ThinSeries$Plan", name := "tierUnder", desc := "([II)I" } : Jvm.MethodName)) ∈ tb := tb_at 517 (by decide +kernel)
theorem q_518 : (Jvm.Cond.code ({ cls := "ThinSeries$Plan", name := "tierUnder", desc := "([II)I" } : Jvm.MethodName) prog_4_method_9_code (4 : Nat) (Option.some Jvm.ClassFile.FieldType.int)) ∈ tb := tb_at 518 (by decide +kernel)
theorem q_519 : (Jvm.Cond.methodLinkNest "ThinSeries$Series" (79 : Nat) ({ cls := "ThinSeries", name := "multipleUpTo", desc := "(II)I" } : Jvm.MethodName) "ThinSeries") ∈ nwL := nw_at 519 (by decide +kernel)
theorem q_520 : (Jvm.Cond.methodLink "ThinSeries$Series" (105 : Nat) ({ cls := "ThinSeries$Series", name := "join", desc := "(II)V" } : Jvm.MethodName)) ∈ tb := tb_at 520 (by decide +kernel)
theorem q_522 : (Jvm.Cond.instanceMethod ({ cls := "ThinSeries$Series", name := "join", desc := "(II)V" } : Jvm.MethodName)) ∈ tb := tb_at 522 (by decide +kernel)
theorem q_523 : (Jvm.Cond.code ({ cls := "ThinSeries$Series", name := "join", desc := "(II)V" } : Jvm.MethodName) prog_7_method_18_code (3 : Nat) (Option.none : Option Jvm.ClassFile.FieldType)) ∈ tb := tb_at 523 (by decide +kernel)
theorem q_524 : (Jvm.Cond.methodLink "ThinSeries$Series" (91 : Nat) ({ cls := "java/lang/Math", name := "min", desc := "(II)I" } : Jvm.MethodName)) ∈ tb := tb_at 524 (by decide +kernel)
theorem q_525 : (Jvm.Cond.static ({ cls := "java/lang/Math", name := "min", desc := "(II)I" } : Jvm.MethodName)) ∈ tb := tb_at 525 (by decide +kernel)
theorem q_526 : (Jvm.Cond.code ({ cls := "java/lang/Math", name := "min", desc := "(II)I" } : Jvm.MethodName) prog_19_method_69_code (2 : Nat) (Option.some Jvm.ClassFile.FieldType.int)) ∈ tb := tb_at 526 (by decide +kernel)
theorem q_527 : (Jvm.Cond.methodLink "ThinSeries$Series" (96 : Nat) ({ cls := "java/lang/Math", name := "max", desc := "(II)I" } : Jvm.MethodName)) ∈ tb := tb_at 527 (by decide +kernel)
theorem q_528 : (Jvm.Cond.methodLink "ThinSeries$Series" (109 : Nat) ({ cls := "ThinSeries$Series", name := "carry", desc := "(III)V" } : Jvm.MethodName)) ∈ tb := tb_at 528 (by decide +kernel)
theorem q_530 : (Jvm.Cond.instanceMethod ({ cls := "ThinSeries$Series", name := "carry", desc := "(III)V" } : Jvm.MethodName)) ∈ tb := tb_at 530 (by decide +kernel)
theorem q_531 : (Jvm.Cond.code ({ cls := "ThinSeries$Series", name := "carry", desc := "(III)V" } : Jvm.MethodName) prog_7_method_19_code (4 : Nat) (Option.none : Option Jvm.ClassFile.FieldType)) ∈ tb := tb_at 531 (by decide +kernel)
theorem q_532 : (Jvm.Cond.methodLink "ThinSeries" (361 : Nat) ({ cls := "ThinSeries$Series", name := "add", desc := "(II)V" } : Jvm.MethodName)) ∈ tb := tb_at 532 (by decide +kernel)
theorem q_533 : (Jvm.Cond.instanceMethod ({ cls := "ThinSeries$Series", name := "add", desc := "(II)V" } : Jvm.MethodName)) ∈ tb := tb_at 533 (by decide +kernel)
theorem q_534 : (Jvm.Cond.selects "ThinSeries$Series" ({ cls := "ThinSeries$Series", name := "add", desc := "(II)V" } : Jvm.MethodName) ({ cls := "ThinSeries$Series", name := "add", desc := "(II)V" } : Jvm.MethodName)) ∈ tb := tb_at 534 (by decide +kernel)
theorem q_535 : (Jvm.Cond.code ({ cls := "ThinSeries$Series", name := "add", desc := "(II)V" } : Jvm.MethodName) prog_7_method_12_code (6 : Nat) (Option.none : Option Jvm.ClassFile.FieldType)) ∈ tb := tb_at 535 (by decide +kernel)
theorem q_536 : (Jvm.Cond.methodLink "ThinSeries$Series" (65 : Nat) ({ cls := "ThinSeries$Series", name := "firstFrom", desc := "(I)I" } : Jvm.MethodName)) ∈ tb := tb_at 536 (by decide +kernel)
theorem q_537 : (Jvm.Cond.instanceMethod ({ cls := "ThinSeries$Series", name := "firstFrom", desc := "(I)I" } : Jvm.MethodName)) ∈ tb := tb_at 537 (by decide +kernel)
theorem q_538 : (Jvm.Cond.selects "ThinSeries$Series" ({ cls := "ThinSeries$Series", name := "firstFrom", desc := "(I)I" } : Jvm.MethodName) ({ cls := "ThinSeries$Series", name := "firstFrom", desc := "(I)I" } : Jvm.MethodName)) ∈ tb := tb_at 538 (by decide +kernel)
theorem q_539 : (Jvm.Cond.code ({ cls := "ThinSeries$Series", name := "firstFrom", desc := "(I)I" } : Jvm.MethodName) prog_7_method_7_code (5 : Nat) (Option.some Jvm.ClassFile.FieldType.int)) ∈ tb := tb_at 539 (by decide +kernel)
theorem q_540 : (Jvm.Cond.methodLink "ThinSeries$Series" (68 : Nat) ({ cls := "ThinSeries$Series", name := "hasStart", desc := "(II)Z" } : Jvm.MethodName)) ∈ tb := tb_at 540 (by decide +kernel)
theorem q_541 : (Jvm.Cond.instanceMethod ({ cls := "ThinSeries$Series", name := "hasStart", desc := "(II)Z" } : Jvm.MethodName)) ∈ tb := tb_at 541 (by decide +kernel)
theorem q_542 : (Jvm.Cond.selects "ThinSeries$Series" ({ cls := "ThinSeries$Series", name := "hasStart", desc := "(II)Z" } : Jvm.MethodName) ({ cls := "ThinSeries$Series", name := "hasStart", desc := "(II)Z" } : Jvm.MethodName)) ∈ tb := tb_at 542 (by decide +kernel)
theorem q_543 : (Jvm.Cond.code ({ cls := "ThinSeries$Series", name := "hasStart", desc := "(II)Z" } : Jvm.MethodName) prog_7_method_8_code (3 : Nat) (Option.some Jvm.ClassFile.FieldType.boolean)) ∈ tb := tb_at 543 (by decide +kernel)
theorem q_544 : (Jvm.Cond.methodLink "ThinSeries$Series" (83 : Nat) ({ cls := "ThinSeries$Series", name := "makeRoom", desc := "()Z" } : Jvm.MethodName)) ∈ tb := tb_at 544 (by decide +kernel)
theorem q_546 : (Jvm.Cond.instanceMethod ({ cls := "ThinSeries$Series", name := "makeRoom", desc := "()Z" } : Jvm.MethodName)) ∈ tb := tb_at 546 (by decide +kernel)
theorem q_547 : (Jvm.Cond.code ({ cls := "ThinSeries$Series", name := "makeRoom", desc := "()Z" } : Jvm.MethodName) prog_7_method_20_code (2 : Nat) (Option.some Jvm.ClassFile.FieldType.boolean)) ∈ tb := tb_at 547 (by decide +kernel)
theorem q_548 : (Jvm.Cond.constant "ThinSeries$Series" (138 : Nat) (32768 : Int32)) ∈ tb := tb_at 548 (by decide +kernel)
theorem q_549 : (Jvm.Cond.methodLink "ThinSeries$Series" (139 : Nat) ({ cls := "java/util/Arrays", name := "copyOf", desc := "([II)[I" } : Jvm.MethodName)) ∈ tb := tb_at 549 (by decide +kernel)
theorem q_550 : (Jvm.Cond.static ({ cls := "java/util/Arrays", name := "copyOf", desc := "([II)[I" } : Jvm.MethodName)) ∈ tb := tb_at 550 (by decide +kernel)
theorem q_551 : (Jvm.Cond.code ({ cls := "java/util/Arrays", name := "copyOf", desc := "([II)[I" } : Jvm.MethodName) prog_28_method_123_code (3 : Nat) (Option.some (Jvm.ClassFile.FieldType.array Jvm.ClassFile.FieldType.int))) ∈ tb := tb_at 551 (by decide +kernel)
theorem q_559 : (Jvm.Cond.methodLink "java/util/Arrays" (304 : Nat) ({ cls := "java/lang/Math", name := "min", desc := "(II)I" } : Jvm.MethodName)) ∈ tb := tb_at 559 (by decide +kernel)
theorem q_560 : (Jvm.Cond.methodLink "java/util/Arrays" (150 : Nat) ({ cls := "java/lang/System", name := "arraycopy", desc := "(Ljava/lang/Object;ILjava/lang/Object;II)V" } : Jvm.MethodName)) ∈ tb := tb_at 560 (by decide +kernel)
theorem q_561 : (Jvm.Cond.methodLink "ThinSeries$Series" (145 : Nat) ({ cls := "java/util/Arrays", name := "copyOf", desc := "([JI)[J" } : Jvm.MethodName)) ∈ tb := tb_at 561 (by decide +kernel)
theorem q_562 : (Jvm.Cond.static ({ cls := "java/util/Arrays", name := "copyOf", desc := "([JI)[J" } : Jvm.MethodName)) ∈ tb := tb_at 562 (by decide +kernel)
theorem q_563 : (Jvm.Cond.code ({ cls := "java/util/Arrays", name := "copyOf", desc := "([JI)[J" } : Jvm.MethodName) prog_28_method_124_code (3 : Nat) (Option.some (Jvm.ClassFile.FieldType.array Jvm.ClassFile.FieldType.long))) ∈ tb := tb_at 563 (by decide +kernel)
theorem q_569 : (Jvm.Cond.methodLink "ThinSeries$Series" (87 : Nat) ({ cls := "ThinSeries$Series", name := "openAt", desc := "(III)V" } : Jvm.MethodName)) ∈ tb := tb_at 569 (by decide +kernel)
theorem q_571 : (Jvm.Cond.instanceMethod ({ cls := "ThinSeries$Series", name := "openAt", desc := "(III)V" } : Jvm.MethodName)) ∈ tb := tb_at 571 (by decide +kernel)
theorem q_572 : (Jvm.Cond.code ({ cls := "ThinSeries$Series", name := "openAt", desc := "(III)V" } : Jvm.MethodName) prog_7_method_21_code (5 : Nat) (Option.none : Option Jvm.ClassFile.FieldType)) ∈ tb := tb_at 572 (by decide +kernel)
theorem q_573 : (Jvm.Cond.methodLink "ThinSeries" (267 : Nat) ({ cls := "ThinSeries$Series", name := "tierOf", desc := "(I)I" } : Jvm.MethodName)) ∈ tb := tb_at 573 (by decide +kernel)
theorem q_574 : (Jvm.Cond.methodLink "ThinSeriesLaw" (107 : Nat) ({ cls := "ThinSeries", name := "tick", desc := "(II)I" } : Jvm.MethodName)) ∈ tb := tb_at 574 (by decide +kernel)
theorem q_575 : (Jvm.Cond.instanceMethod ({ cls := "ThinSeries", name := "tick", desc := "(II)I" } : Jvm.MethodName)) ∈ tb := tb_at 575 (by decide +kernel)
theorem q_576 : (Jvm.Cond.selects "ThinSeries" ({ cls := "ThinSeries", name := "tick", desc := "(II)I" } : Jvm.MethodName) ({ cls := "ThinSeries", name := "tick", desc := "(II)I" } : Jvm.MethodName)) ∈ tb := tb_at 576 (by decide +kernel)
theorem q_577 : (Jvm.Cond.code ({ cls := "ThinSeries", name := "tick", desc := "(II)I" } : Jvm.MethodName) prog_1_method_7_code (3 : Nat) (Option.some Jvm.ClassFile.FieldType.int)) ∈ tb := tb_at 577 (by decide +kernel)
theorem q_578 : (Jvm.Cond.methodLink "ThinSeriesLaw" (111 : Nat) ({ cls := "ThinSeries", name := "drop", desc := "(I)I" } : Jvm.MethodName)) ∈ tb := tb_at 578 (by decide +kernel)
theorem q_579 : (Jvm.Cond.instanceMethod ({ cls := "ThinSeries", name := "drop", desc := "(I)I" } : Jvm.MethodName)) ∈ tb := tb_at 579 (by decide +kernel)
theorem q_580 : (Jvm.Cond.selects "ThinSeries" ({ cls := "ThinSeries", name := "drop", desc := "(I)I" } : Jvm.MethodName) ({ cls := "ThinSeries", name := "drop", desc := "(I)I" } : Jvm.MethodName)) ∈ tb := tb_at 580 (by decide +kernel)
theorem q_581 : (Jvm.Cond.code ({ cls := "ThinSeries", name := "drop", desc := "(I)I" } : Jvm.MethodName) prog_1_method_8_code (2 : Nat) (Option.some Jvm.ClassFile.FieldType.int)) ∈ tb := tb_at 581 (by decide +kernel)
theorem q_582 : (Jvm.Cond.methodLink "ThinSeries" (174 : Nat) ({ cls := "ThinSeries", name := "tallyAll", desc := "(LThinSeries$Series;)V" } : Jvm.MethodName)) ∈ tb := tb_at 582 (by decide +kernel)
theorem q_584 : (Jvm.Cond.instanceMethod ({ cls := "ThinSeries", name := "tallyAll", desc := "(LThinSeries$Series;)V" } : Jvm.MethodName)) ∈ tb := tb_at 584 (by decide +kernel)
theorem q_585 : (Jvm.Cond.code ({ cls := "ThinSeries", name := "tallyAll", desc := "(LThinSeries$Series;)V" } : Jvm.MethodName) prog_1_method_43_code (3 : Nat) (Option.none : Option Jvm.ClassFile.FieldType)) ∈ tb := tb_at 585 (by decide +kernel)
theorem q_586 : (Jvm.Cond.methodLink "ThinSeries" (303 : Nat) ({ cls := "ThinSeries$Tally", name := "clear", desc := "()V" } : Jvm.MethodName)) ∈ tb := tb_at 586 (by decide +kernel)
theorem q_587 : (Jvm.Cond.instanceMethod ({ cls := "ThinSeries$Tally", name := "clear", desc := "()V" } : Jvm.MethodName)) ∈ tb := tb_at 587 (by decide +kernel)
theorem q_588 : (Jvm.Cond.selects "ThinSeries$Tally" ({ cls := "ThinSeries$Tally", name := "clear", desc := "()V" } : Jvm.MethodName) ({ cls := "ThinSeries$Tally", name := "clear", desc := "()V" } : Jvm.MethodName)) ∈ tb := tb_at 588 (by decide +kernel)
theorem q_589 : (Jvm.Cond.code ({ cls := "ThinSeries$Tally", name := "clear", desc := "()V" } : Jvm.MethodName) prog_8_method_2_code (1 : Nat) (Option.none : Option Jvm.ClassFile.FieldType)) ∈ tb := tb_at 589 (by decide +kernel)
theorem q_590 : (Jvm.Cond.methodLink "ThinSeries" (307 : Nat) ({ cls := "ThinSeries$Tally", name := "add", desc := "(LThinSeries$Series;I)V" } : Jvm.MethodName)) ∈ tb := tb_at 590 (by decide +kernel)
theorem q_591 : (Jvm.Cond.instanceMethod ({ cls := "ThinSeries$Tally", name := "add", desc := "(LThinSeries$Series;I)V" } : Jvm.MethodName)) ∈ tb := tb_at 591 (by decide +kernel)
theorem q_592 : (Jvm.Cond.selects "ThinSeries$Tally" ({ cls := "ThinSeries$Tally", name := "add", desc := "(LThinSeries$Series;I)V" } : Jvm.MethodName) ({ cls := "ThinSeries$Tally", name := "add", desc := "(LThinSeries$Series;I)V" } : Jvm.MethodName)) ∈ tb := tb_at 592 (by decide +kernel)
theorem q_593 : (Jvm.Cond.code ({ cls := "ThinSeries$Tally", name := "add", desc := "(LThinSeries$Series;I)V" } : Jvm.MethodName) prog_8_method_3_code (3 : Nat) (Option.none : Option Jvm.ClassFile.FieldType)) ∈ tb := tb_at 593 (by decide +kernel)
theorem q_594 : (Jvm.Cond.methodLink "ThinSeries$Tally" (33 : Nat) ({ cls := "java/lang/Math", name := "min", desc := "(II)I" } : Jvm.MethodName)) ∈ tb := tb_at 594 (by decide +kernel)
theorem q_595 : (Jvm.Cond.methodLink "ThinSeries$Tally" (41 : Nat) ({ cls := "java/lang/Math", name := "max", desc := "(II)I" } : Jvm.MethodName)) ∈ tb := tb_at 595 (by decide +kernel)
theorem q_596 : (Jvm.Cond.methodLink "ThinSeries" (178 : Nat) ({ cls := "ThinSeries$Roster", name := "remove", desc := "(I)V" } : Jvm.MethodName)) ∈ tb := tb_at 596 (by decide +kernel)
theorem q_597 : (Jvm.Cond.instanceMethod ({ cls := "ThinSeries$Roster", name := "remove", desc := "(I)V" } : Jvm.MethodName)) ∈ tb := tb_at 597 (by decide +kernel)
theorem q_598 : (Jvm.Cond.selects "ThinSeries$Roster" ({ cls := "ThinSeries$Roster", name := "remove", desc := "(I)V" } : Jvm.MethodName) ({ cls := "ThinSeries$Roster", name := "remove", desc := "(I)V" } : Jvm.MethodName)) ∈ tb := tb_at 598 (by decide +kernel)
theorem q_599 : (Jvm.Cond.code ({ cls := "ThinSeries$Roster", name := "remove", desc := "(I)V" } : Jvm.MethodName) prog_6_method_6_code (4 : Nat) (Option.none : Option Jvm.ClassFile.FieldType)) ∈ tb := tb_at 599 (by decide +kernel)
theorem q_600 : (Jvm.Cond.methodLink "ThinSeriesLaw" (115 : Nat) ({ cls := "ThinSeries", name := "sheet", desc := "(IIIIII)I" } : Jvm.MethodName)) ∈ tb := tb_at 600 (by decide +kernel)
theorem q_601 : (Jvm.Cond.instanceMethod ({ cls := "ThinSeries", name := "sheet", desc := "(IIIIII)I" } : Jvm.MethodName)) ∈ tb := tb_at 601 (by decide +kernel)
theorem q_602 : (Jvm.Cond.selects "ThinSeries" ({ cls := "ThinSeries", name := "sheet", desc := "(IIIIII)I" } : Jvm.MethodName) ({ cls := "ThinSeries", name := "sheet", desc := "(IIIIII)I" } : Jvm.MethodName)) ∈ tb := tb_at 602 (by decide +kernel)
theorem q_603 : (Jvm.Cond.code ({ cls := "ThinSeries", name := "sheet", desc := "(IIIIII)I" } : Jvm.MethodName) prog_1_method_9_code (9 : Nat) (Option.some Jvm.ClassFile.FieldType.int)) ∈ tb := tb_at 603 (by decide +kernel)
theorem q_604 : (Jvm.Cond.methodLink "ThinSeries" (184 : Nat) ({ cls := "ThinSeries", name := "placeIfItCanBe", desc := "(IJJ)Z" } : Jvm.MethodName)) ∈ tb := tb_at 604 (by decide +kernel)
theorem q_606 : (Jvm.Cond.instanceMethod ({ cls := "ThinSeries", name := "placeIfItCanBe", desc := "(IJJ)Z" } : Jvm.MethodName)) ∈ tb := tb_at 606 (by decide +kernel)
theorem q_607 : (Jvm.Cond.code ({ cls := "ThinSeries", name := "placeIfItCanBe", desc := "(IJJ)Z" } : Jvm.MethodName) prog_1_method_40_code (6 : Nat) (Option.some Jvm.ClassFile.FieldType.boolean)) ∈ tb := tb_at 607 (by decide +kernel)
theorem q_608 : (Jvm.Cond.methodLink "ThinSeriesLaw" (86 : Nat) ({ cls := "ThinSeriesLaw", name := "tell", desc := "(LThinSeries;I[J)I" } : Jvm.MethodName)) ∈ tb := tb_at 608 (by decide +kernel)
theorem q_609 : (Jvm.Cond.static ({ cls := "ThinSeriesLaw", name := "tell", desc := "(LThinSeries;I[J)I" } : Jvm.MethodName)) ∈ tb := tb_at 609 (by decide +kernel)
theorem q_610 : (Jvm.Cond.codeWith ({ cls := "ThinSeriesLaw", name := "tell", desc := "(LThinSeries;I[J)I" } : Jvm.MethodName) method_3_code (4 : Nat) (Option.some Jvm.ClassFile.FieldType.int) [((0 : Nat), (9 : Nat), (12 : Nat), (13 : Nat))]) ∈ tb := tb_at 610 (by decide +kernel)
theorem q_611 : (Jvm.Cond.classLink "ThinSeriesLaw" (13 : Nat) "java/lang/IllegalArgumentException") ∈ tb := tb_at 611 (by decide +kernel)
theorem q_612 : (Jvm.Cond.methodLink "ThinSeriesLaw" (7 : Nat) ({ cls := "ThinSeries", name := "tell", desc := "(I)I" } : Jvm.MethodName)) ∈ tb := tb_at 612 (by decide +kernel)
theorem q_613 : (Jvm.Cond.instanceMethod ({ cls := "ThinSeries", name := "tell", desc := "(I)I" } : Jvm.MethodName)) ∈ tb := tb_at 613 (by decide +kernel)
theorem q_614 : (Jvm.Cond.selects "ThinSeries" ({ cls := "ThinSeries", name := "tell", desc := "(I)I" } : Jvm.MethodName) ({ cls := "ThinSeries", name := "tell", desc := "(I)I" } : Jvm.MethodName)) ∈ tb := tb_at 614 (by decide +kernel)
theorem q_615 : (Jvm.Cond.code ({ cls := "ThinSeries", name := "tell", desc := "(I)I" } : Jvm.MethodName) prog_1_method_3_code (4 : Nat) (Option.some Jvm.ClassFile.FieldType.int)) ∈ tb := tb_at 615 (by decide +kernel)
theorem q_616 : (Jvm.Cond.classLink "ThinSeries" (104 : Nat) "java/lang/IllegalArgumentException") ∈ tb := tb_at 616 (by decide +kernel)
theorem q_618 : (Jvm.Cond.castable "java/lang/IllegalArgumentException" "java/lang/IllegalArgumentException") ∈ nwL := nw_at 618 (by decide +kernel)
theorem q_682 : (Jvm.Cond.methodLink "ThinSeries" (111 : Nat) ({ cls := "ThinSeries$PlanReader", name := "read", desc := "(ILThinSeries$Plan;)Z" } : Jvm.MethodName)) ∈ tb := tb_at 682 (by decide +kernel)
theorem q_683 : (Jvm.Cond.instanceMethod ({ cls := "ThinSeries$PlanReader", name := "read", desc := "(ILThinSeries$Plan;)Z" } : Jvm.MethodName)) ∈ tb := tb_at 683 (by decide +kernel)
theorem q_684 : (Jvm.Cond.selects "ThinSeries$PlanReader" ({ cls := "ThinSeries$PlanReader", name := "read", desc := "(ILThinSeries$Plan;)Z" } : Jvm.MethodName) ({ cls := "ThinSeries$PlanReader", name := "read", desc := "(ILThinSeries$Plan;)Z" } : Jvm.MethodName)) ∈ tb := tb_at 684 (by decide +kernel)
theorem q_685 : (Jvm.Cond.code ({ cls := "ThinSeries$PlanReader", name := "read", desc := "(ILThinSeries$Plan;)Z" } : Jvm.MethodName) prog_5_method_2_code (4 : Nat) (Option.some Jvm.ClassFile.FieldType.boolean)) ∈ tb := tb_at 685 (by decide +kernel)
theorem q_686 : (Jvm.Cond.methodLink "ThinSeries$PlanReader" (15 : Nat) ({ cls := "ThinSeries$Plan", name := "clear", desc := "()V" } : Jvm.MethodName)) ∈ tb := tb_at 686 (by decide +kernel)
theorem q_687 : (Jvm.Cond.instanceMethod ({ cls := "ThinSeries$Plan", name := "clear", desc := "()V" } : Jvm.MethodName)) ∈ tb := tb_at 687 (by decide +kernel)
theorem q_688 : (Jvm.Cond.selects "ThinSeries$Plan" ({ cls := "ThinSeries$Plan", name := "clear", desc := "()V" } : Jvm.MethodName) ({ cls := "ThinSeries$Plan", name := "clear", desc := "()V" } : Jvm.MethodName)) ∈ tb := tb_at 688 (by decide +kernel)
theorem q_689 : (Jvm.Cond.code ({ cls := "ThinSeries$Plan", name := "clear", desc := "()V" } : Jvm.MethodName) prog_4_method_2_code (1 : Nat) (Option.none : Option Jvm.ClassFile.FieldType)) ∈ tb := tb_at 689 (by decide +kernel)
theorem q_690 : (Jvm.Cond.methodLink "ThinSeries$Plan" (35 : Nat) ({ cls := "ThinSeries$Alarm", name := "clear", desc := "()V" } : Jvm.MethodName)) ∈ tb := tb_at 690 (by decide +kernel)
theorem q_691 : (Jvm.Cond.instanceMethod ({ cls := "ThinSeries$Alarm", name := "clear", desc := "()V" } : Jvm.MethodName)) ∈ tb := tb_at 691 (by decide +kernel)
theorem q_692 : (Jvm.Cond.selects "ThinSeries$Alarm" ({ cls := "ThinSeries$Alarm", name := "clear", desc := "()V" } : Jvm.MethodName) ({ cls := "ThinSeries$Alarm", name := "clear", desc := "()V" } : Jvm.MethodName)) ∈ tb := tb_at 692 (by decide +kernel)
theorem q_693 : (Jvm.Cond.code ({ cls := "ThinSeries$Alarm", name := "clear", desc := "()V" } : Jvm.MethodName) prog_2_method_2_code (1 : Nat) (Option.none : Option Jvm.ClassFile.FieldType)) ∈ tb := tb_at 693 (by decide +kernel)
theorem q_694 : (Jvm.Cond.methodLink "ThinSeries$PlanReader" (20 : Nat) ({ cls := "ThinSeries$Tokens", name := "open", desc := "(I)V" } : Jvm.MethodName)) ∈ tb := tb_at 694 (by decide +kernel)
theorem q_695 : (Jvm.Cond.instanceMethod ({ cls := "ThinSeries$Tokens", name := "open", desc := "(I)V" } : Jvm.MethodName)) ∈ tb := tb_at 695 (by decide +kernel)
theorem q_696 : (Jvm.Cond.selects "ThinSeries$Tokens" ({ cls := "ThinSeries$Tokens", name := "open", desc := "(I)V" } : Jvm.MethodName) ({ cls := "ThinSeries$Tokens", name := "open", desc := "(I)V" } : Jvm.MethodName)) ∈ tb := tb_at 696 (by decide +kernel)
theorem q_697 : (Jvm.Cond.code ({ cls := "ThinSeries$Tokens", name := "open", desc := "(I)V" } : Jvm.MethodName) prog_9_method_2_code (2 : Nat) (Option.none : Option Jvm.ClassFile.FieldType)) ∈ tb := tb_at 697 (by decide +kernel)
theorem q_698 : (Jvm.Cond.methodLink "ThinSeries$Tokens" (40 : Nat) ({ cls := "java/lang/Math", name := "min", desc := "(II)I" } : Jvm.MethodName)) ∈ tb := tb_at 698 (by decide +kernel)
theorem q_699 : (Jvm.Cond.methodLink "ThinSeries$Tokens" (46 : Nat) ({ cls := "java/lang/Math", name := "max", desc := "(II)I" } : Jvm.MethodName)) ∈ tb := tb_at 699 (by decide +kernel)
theorem q_700 : (Jvm.Cond.methodLink "ThinSeries$Tokens" (49 : Nat) ({ cls := "ThinSeries$Tokens", name := "next", desc := "()V" } : Jvm.MethodName)) ∈ tb := tb_at 700 (by decide +kernel)
theorem q_701 : (Jvm.Cond.instanceMethod ({ cls := "ThinSeries$Tokens", name := "next", desc := "()V" } : Jvm.MethodName)) ∈ tb := tb_at 701 (by decide +kernel)
theorem q_702 : (Jvm.Cond.selects "ThinSeries$Tokens" ({ cls := "ThinSeries$Tokens", name := "next", desc := "()V" } : Jvm.MethodName) ({ cls := "ThinSeries$Tokens", name := "next", desc := "()V" } : Jvm.MethodName)) ∈ tb := tb_at 702 (by decide +kernel)
theorem q_703 : (Jvm.Cond.code ({ cls := "ThinSeries$Tokens", name := "next", desc := "()V" } : Jvm.MethodName) prog_9_method_3_code (1 : Nat) (Option.none : Option Jvm.ClassFile.FieldType)) ∈ tb := tb_at 703 (by decide +kernel)
theorem q_704 : (Jvm.Cond.methodLink "ThinSeries$Tokens" (52 : Nat) ({ cls := "ThinSeries$Tokens", name := "readWord", desc := "()V" } : Jvm.MethodName)) ∈ tb := tb_at 704 (by decide +kernel)
theorem q_706 : (Jvm.Cond.instanceMethod ({ cls := "ThinSeries$Tokens", name := "readWord", desc := "()V" } : Jvm.MethodName)) ∈ tb := tb_at 706 (by decide +kernel)
theorem q_707 : (Jvm.Cond.code ({ cls := "ThinSeries$Tokens", name := "readWord", desc := "()V" } : Jvm.MethodName) prog_9_method_11_code (1 : Nat) (Option.none : Option Jvm.ClassFile.FieldType)) ∈ tb := tb_at 707 (by decide +kernel)
theorem q_708 : (Jvm.Cond.methodLink "ThinSeries$Tokens" (55 : Nat) ({ cls := "ThinSeries$Tokens", name := "readNumber", desc := "()V" } : Jvm.MethodName)) ∈ tb := tb_at 708 (by decide +kernel)
theorem q_710 : (Jvm.Cond.instanceMethod ({ cls := "ThinSeries$Tokens", name := "readNumber", desc := "()V" } : Jvm.MethodName)) ∈ tb := tb_at 710 (by decide +kernel)
theorem q_711 : (Jvm.Cond.code ({ cls := "ThinSeries$Tokens", name := "readNumber", desc := "()V" } : Jvm.MethodName) prog_9_method_12_code (1 : Nat) (Option.none : Option Jvm.ClassFile.FieldType)) ∈ tb := tb_at 711 (by decide +kernel)
theorem q_712 : (Jvm.Cond.constant "ThinSeries$Tokens" (87 : Nat) (2147483647 : Int32)) ∈ tb := tb_at 712 (by decide +kernel)
theorem q_714 : (Jvm.Cond.methodLink "ThinSeries$Tokens" (60 : Nat) ({ cls := "java/lang/String", name := "indexOf", desc := "(I)I" } : Jvm.MethodName)) ∈ tb := tb_at 714 (by decide +kernel)
theorem q_715 : (Jvm.Cond.instanceMethod ({ cls := "java/lang/String", name := "indexOf", desc := "(I)I" } : Jvm.MethodName)) ∈ tb := tb_at 715 (by decide +kernel)
theorem q_716 : (Jvm.Cond.selects "java/lang/String" ({ cls := "java/lang/String", name := "indexOf", desc := "(I)I" } : Jvm.MethodName) ({ cls := "java/lang/String", name := "indexOf", desc := "(I)I" } : Jvm.MethodName)) ∈ tb := tb_at 716 (by decide +kernel)
theorem q_717 : (Jvm.Cond.code ({ cls := "java/lang/String", name := "indexOf", desc := "(I)I" } : Jvm.MethodName) prog_21_method_79_code (2 : Nat) (Option.some Jvm.ClassFile.FieldType.int)) ∈ tb := tb_at 717 (by decide +kernel)
theorem q_718 : (Jvm.Cond.methodLink "java/lang/String" (633 : Nat) ({ cls := "java/lang/String", name := "indexOf", desc := "(II)I" } : Jvm.MethodName)) ∈ tb := tb_at 718 (by decide +kernel)
theorem q_719 : (Jvm.Cond.instanceMethod ({ cls := "java/lang/String", name := "indexOf", desc := "(II)I" } : Jvm.MethodName)) ∈ tb := tb_at 719 (by decide +kernel)
theorem q_720 : (Jvm.Cond.selects "java/lang/String" ({ cls := "java/lang/String", name := "indexOf", desc := "(II)I" } : Jvm.MethodName) ({ cls := "java/lang/String", name := "indexOf", desc := "(II)I" } : Jvm.MethodName)) ∈ tb := tb_at 720 (by decide +kernel)
theorem q_721 : (Jvm.Cond.code ({ cls := "java/lang/String", name := "indexOf", desc := "(II)I" } : Jvm.MethodName) prog_21_method_80_code (3 : Nat) (Option.some Jvm.ClassFile.FieldType.int)) ∈ tb := tb_at 721 (by decide +kernel)
theorem q_722 : (Jvm.Cond.methodLink "java/lang/String" (492 : Nat) ({ cls := "java/lang/String", name := "isLatin1", desc := "()Z" } : Jvm.MethodName)) ∈ tb := tb_at 722 (by decide +kernel)
theorem q_723 : (Jvm.Cond.instanceMethod ({ cls := "java/lang/String", name := "isLatin1", desc := "()Z" } : Jvm.MethodName)) ∈ tb := tb_at 723 (by decide +kernel)
theorem q_724 : (Jvm.Cond.selects "java/lang/String" ({ cls := "java/lang/String", name := "isLatin1", desc := "()Z" } : Jvm.MethodName) ({ cls := "java/lang/String", name := "isLatin1", desc := "()Z" } : Jvm.MethodName)) ∈ tb := tb_at 724 (by decide +kernel)
theorem q_725 : (Jvm.Cond.code ({ cls := "java/lang/String", name := "isLatin1", desc := "()Z" } : Jvm.MethodName) prog_21_method_154_code (1 : Nat) (Option.some Jvm.ClassFile.FieldType.boolean)) ∈ tb := tb_at 725 (by decide +kernel)
theorem q_726 : (Jvm.Cond.fieldLink "java/lang/String" (38 : Nat) "java/lang/String" "COMPACT_STRINGS" "Z") ∈ tb := tb_at 726 (by decide +kernel)
theorem q_728 : (Jvm.Cond.methodLink "java/lang/String" (505 : Nat) ({ cls := "java/lang/String", name := "length", desc := "()I" } : Jvm.MethodName)) ∈ tb := tb_at 728 (by decide +kernel)
theorem q_729 : (Jvm.Cond.instanceMethod ({ cls := "java/lang/String", name := "length", desc := "()I" } : Jvm.MethodName)) ∈ tb := tb_at 729 (by decide +kernel)
theorem q_730 : (Jvm.Cond.selects "java/lang/String" ({ cls := "java/lang/String", name := "length", desc := "()I" } : Jvm.MethodName) ({ cls := "java/lang/String", name := "length", desc := "()I" } : Jvm.MethodName)) ∈ tb := tb_at 730 (by decide +kernel)
theorem q_731 : (Jvm.Cond.code ({ cls := "java/lang/String", name := "length", desc := "()I" } : Jvm.MethodName) prog_21_method_54_code (1 : Nat) (Option.some Jvm.ClassFile.FieldType.int)) ∈ tb := tb_at 731 (by decide +kernel)
theorem q_732 : (Jvm.Cond.methodLink "java/lang/String" (335 : Nat) ({ cls := "java/lang/String", name := "coder", desc := "()B" } : Jvm.MethodName)) ∈ tb := tb_at 732 (by decide +kernel)
theorem q_733 : (Jvm.Cond.instanceMethod ({ cls := "java/lang/String", name := "coder", desc := "()B" } : Jvm.MethodName)) ∈ tb := tb_at 733 (by decide +kernel)
theorem q_734 : (Jvm.Cond.selects "java/lang/String" ({ cls := "java/lang/String", name := "coder", desc := "()B" } : Jvm.MethodName) ({ cls := "java/lang/String", name := "coder", desc := "()B" } : Jvm.MethodName)) ∈ tb := tb_at 734 (by decide +kernel)
theorem q_735 : (Jvm.Cond.code ({ cls := "java/lang/String", name := "coder", desc := "()B" } : Jvm.MethodName) prog_21_method_152_code (1 : Nat) (Option.some Jvm.ClassFile.FieldType.byte)) ∈ tb := tb_at 735 (by decide +kernel)
theorem q_736 : (Jvm.Cond.methodLink "java/lang/String" (637 : Nat) ({ cls := "java/lang/StringLatin1", name := "indexOf", desc := "([BIII)I" } : Jvm.MethodName)) ∈ tb := tb_at 736 (by decide +kernel)
theorem q_737 : (Jvm.Cond.static ({ cls := "java/lang/StringLatin1", name := "indexOf", desc := "([BIII)I" } : Jvm.MethodName)) ∈ tb := tb_at 737 (by decide +kernel)
theorem q_738 : (Jvm.Cond.code ({ cls := "java/lang/StringLatin1", name := "indexOf", desc := "([BIII)I" } : Jvm.MethodName) prog_22_method_22_code (4 : Nat) (Option.some Jvm.ClassFile.FieldType.int)) ∈ tb := tb_at 738 (by decide +kernel)
theorem q_739 : (Jvm.Cond.methodLink "java/lang/StringLatin1" (88 : Nat) ({ cls := "java/lang/StringLatin1", name := "canEncode", desc := "(I)Z" } : Jvm.MethodName)) ∈ tb := tb_at 739 (by decide +kernel)
theorem q_740 : (Jvm.Cond.static ({ cls := "java/lang/StringLatin1", name := "canEncode", desc := "(I)Z" } : Jvm.MethodName)) ∈ tb := tb_at 740 (by decide +kernel)
theorem q_741 : (Jvm.Cond.code ({ cls := "java/lang/StringLatin1", name := "canEncode", desc := "(I)Z" } : Jvm.MethodName) prog_22_method_4_code (1 : Nat) (Option.some Jvm.ClassFile.FieldType.boolean)) ∈ tb := tb_at 741 (by decide +kernel)
theorem q_742 : (Jvm.Cond.methodLink "java/lang/StringLatin1" (92 : Nat) ({ cls := "java/lang/Math", name := "max", desc := "(II)I" } : Jvm.MethodName)) ∈ tb := tb_at 742 (by decide +kernel)
theorem q_743 : (Jvm.Cond.methodLink "java/lang/StringLatin1" (38 : Nat) ({ cls := "java/lang/Math", name := "min", desc := "(II)I" } : Jvm.MethodName)) ∈ tb := tb_at 743 (by decide +kernel)
theorem q_744 : (Jvm.Cond.methodLink "java/lang/StringLatin1" (95 : Nat) ({ cls := "java/lang/StringLatin1", name := "indexOfChar", desc := "([BIII)I" } : Jvm.MethodName)) ∈ tb := tb_at 744 (by decide +kernel)
theorem q_745 : (Jvm.Cond.static ({ cls := "java/lang/StringLatin1", name := "indexOfChar", desc := "([BIII)I" } : Jvm.MethodName)) ∈ tb := tb_at 745 (by decide +kernel)
theorem q_746 : (Jvm.Cond.code ({ cls := "java/lang/StringLatin1", name := "indexOfChar", desc := "([BIII)I" } : Jvm.MethodName) prog_22_method_23_code (6 : Nat) (Option.some Jvm.ClassFile.FieldType.int)) ∈ tb := tb_at 746 (by decide +kernel)
theorem q_765 : (Jvm.Cond.fieldLink "java/lang/String" (1053 : Nat) "jdk/internal/util/Preconditions" "SIOOBE_FORMATTER" "Ljava/util/function/BiFunction;") ∈ tb := tb_at 765 (by decide +kernel)
theorem q_796 : (Jvm.Cond.methodLink "ThinSeries$PlanReader" (30 : Nat) ({ cls := "ThinSeries$PlanReader", name := "readClause", desc := "(LThinSeries$Plan;)Z" } : Jvm.MethodName)) ∈ tb := tb_at 796 (by decide +kernel)
theorem q_798 : (Jvm.Cond.instanceMethod ({ cls := "ThinSeries$PlanReader", name := "readClause", desc := "(LThinSeries$Plan;)Z" } : Jvm.MethodName)) ∈ tb := tb_at 798 (by decide +kernel)
theorem q_799 : (Jvm.Cond.code ({ cls := "ThinSeries$PlanReader", name := "readClause", desc := "(LThinSeries$Plan;)Z" } : Jvm.MethodName) prog_5_method_3_code (3 : Nat) (Option.some Jvm.ClassFile.FieldType.boolean)) ∈ tb := tb_at 799 (by decide +kernel)
theorem q_801 : (Jvm.Cond.methodLink "ThinSeries$PlanReader" (46 : Nat) ({ cls := "ThinSeries$Tokens", name := "isWord", desc := "(Ljava/lang/String;)Z" } : Jvm.MethodName)) ∈ tb := tb_at 801 (by decide +kernel)
theorem q_802 : (Jvm.Cond.instanceMethod ({ cls := "ThinSeries$Tokens", name := "isWord", desc := "(Ljava/lang/String;)Z" } : Jvm.MethodName)) ∈ tb := tb_at 802 (by decide +kernel)
theorem q_803 : (Jvm.Cond.selects "ThinSeries$Tokens" ({ cls := "ThinSeries$Tokens", name := "isWord", desc := "(Ljava/lang/String;)Z" } : Jvm.MethodName) ({ cls := "ThinSeries$Tokens", name := "isWord", desc := "(Ljava/lang/String;)Z" } : Jvm.MethodName)) ∈ tb := tb_at 803 (by decide +kernel)
theorem q_804 : (Jvm.Cond.code ({ cls := "ThinSeries$Tokens", name := "isWord", desc := "(Ljava/lang/String;)Z" } : Jvm.MethodName) prog_9_method_4_code (3 : Nat) (Option.some Jvm.ClassFile.FieldType.boolean)) ∈ tb := tb_at 804 (by decide +kernel)
theorem q_805 : (Jvm.Cond.methodLink "ThinSeries$Tokens" (66 : Nat) ({ cls := "java/lang/String", name := "length", desc := "()I" } : Jvm.MethodName)) ∈ tb := tb_at 805 (by decide +kernel)
theorem q_806 : (Jvm.Cond.methodLink "ThinSeries$Tokens" (69 : Nat) ({ cls := "java/lang/String", name := "charAt", desc := "(I)C" } : Jvm.MethodName)) ∈ tb := tb_at 806 (by decide +kernel)
theorem q_807 : (Jvm.Cond.instanceMethod ({ cls := "java/lang/String", name := "charAt", desc := "(I)C" } : Jvm.MethodName)) ∈ tb := tb_at 807 (by decide +kernel)
theorem q_808 : (Jvm.Cond.selects "java/lang/String" ({ cls := "java/lang/String", name := "charAt", desc := "(I)C" } : Jvm.MethodName) ({ cls := "java/lang/String", name := "charAt", desc := "(I)C" } : Jvm.MethodName)) ∈ tb := tb_at 808 (by decide +kernel)
theorem q_809 : (Jvm.Cond.code ({ cls := "java/lang/String", name := "charAt", desc := "(I)C" } : Jvm.MethodName) prog_21_method_56_code (2 : Nat) (Option.some Jvm.ClassFile.FieldType.char)) ∈ tb := tb_at 809 (by decide +kernel)
theorem q_810 : (Jvm.Cond.methodLink "java/lang/String" (495 : Nat) ({ cls := "java/lang/StringLatin1", name := "charAt", desc := "([BI)C" } : Jvm.MethodName)) ∈ tb := tb_at 810 (by decide +kernel)
theorem q_811 : (Jvm.Cond.static ({ cls := "java/lang/StringLatin1", name := "charAt", desc := "([BI)C" } : Jvm.MethodName)) ∈ tb := tb_at 811 (by decide +kernel)
theorem q_812 : (Jvm.Cond.code ({ cls := "java/lang/StringLatin1", name := "charAt", desc := "([BI)C" } : Jvm.MethodName) prog_22_method_2_code (2 : Nat) (Option.some Jvm.ClassFile.FieldType.char)) ∈ tb := tb_at 812 (by decide +kernel)
theorem q_813 : (Jvm.Cond.methodLink "java/lang/StringLatin1" (9 : Nat) ({ cls := "java/lang/String", name := "checkIndex", desc := "(II)V" } : Jvm.MethodName)) ∈ tb := tb_at 813 (by decide +kernel)
theorem q_814 : (Jvm.Cond.static ({ cls := "java/lang/String", name := "checkIndex", desc := "(II)V" } : Jvm.MethodName)) ∈ tb := tb_at 814 (by decide +kernel)
theorem q_815 : (Jvm.Cond.code ({ cls := "java/lang/String", name := "checkIndex", desc := "(II)V" } : Jvm.MethodName) prog_21_method_155_code (2 : Nat) (Option.none : Option Jvm.ClassFile.FieldType)) ∈ tb := tb_at 815 (by decide +kernel)
theorem q_816 : (Jvm.Cond.methodLink "java/lang/String" (1059 : Nat) ({ cls := "jdk/internal/util/Preconditions", name := "checkIndex", desc := "(IILjava/util/function/BiFunction;)I" } : Jvm.MethodName)) ∈ tb := tb_at 816 (by decide +kernel)
theorem q_817 : (Jvm.Cond.static ({ cls := "jdk/internal/util/Preconditions", name := "checkIndex", desc := "(IILjava/util/function/BiFunction;)I" } : Jvm.MethodName)) ∈ tb := tb_at 817 (by decide +kernel)
theorem q_818 : (Jvm.Cond.code ({ cls := "jdk/internal/util/Preconditions", name := "checkIndex", desc := "(IILjava/util/function/BiFunction;)I" } : Jvm.MethodName) prog_30_method_11_code (3 : Nat) (Option.some Jvm.ClassFile.FieldType.int)) ∈ tb := tb_at 818 (by decide +kernel)
theorem q_826 : (Jvm.Cond.methodLink "ThinSeries$PlanReader" (50 : Nat) ({ cls := "ThinSeries$PlanReader", name := "readTier", desc := "(LThinSeries$Plan;)Z" } : Jvm.MethodName)) ∈ tb := tb_at 826 (by decide +kernel)
theorem q_828 : (Jvm.Cond.instanceMethod ({ cls := "ThinSeries$PlanReader", name := "readTier", desc := "(LThinSeries$Plan;)Z" } : Jvm.MethodName)) ∈ tb := tb_at 828 (by decide +kernel)
theorem q_829 : (Jvm.Cond.code ({ cls := "ThinSeries$PlanReader", name := "readTier", desc := "(LThinSeries$Plan;)Z" } : Jvm.MethodName) prog_5_method_4_code (3 : Nat) (Option.some Jvm.ClassFile.FieldType.boolean)) ∈ tb := tb_at 829 (by decide +kernel)
theorem q_830 : (Jvm.Cond.methodLink "ThinSeries$PlanReader" (83 : Nat) ({ cls := "ThinSeries$Plan", name := "isFull", desc := "()Z" } : Jvm.MethodName)) ∈ tb := tb_at 830 (by decide +kernel)
theorem q_831 : (Jvm.Cond.instanceMethod ({ cls := "ThinSeries$Plan", name := "isFull", desc := "()Z" } : Jvm.MethodName)) ∈ tb := tb_at 831 (by decide +kernel)
theorem q_832 : (Jvm.Cond.selects "ThinSeries$Plan" ({ cls := "ThinSeries$Plan", name := "isFull", desc := "()Z" } : Jvm.MethodName) ({ cls := "ThinSeries$Plan", name := "isFull", desc := "()Z" } : Jvm.MethodName)) ∈ tb := tb_at 832 (by decide +kernel)
theorem q_833 : (Jvm.Cond.code ({ cls := "ThinSeries$Plan", name := "isFull", desc := "()Z" } : Jvm.MethodName) prog_4_method_4_code (1 : Nat) (Option.some Jvm.ClassFile.FieldType.boolean)) ∈ tb := tb_at 833 (by decide +kernel)
theorem q_834 : (Jvm.Cond.methodLink "ThinSeries$PlanReader" (79 : Nat) ({ cls := "ThinSeries$Tokens", name := "refuse", desc := "(I)Z" } : Jvm.MethodName)) ∈ tb := tb_at 834 (by decide +kernel)
theorem q_835 : (Jvm.Cond.instanceMethod ({ cls := "ThinSeries$Tokens", name := "refuse", desc := "(I)Z" } : Jvm.MethodName)) ∈ tb := tb_at 835 (by decide +kernel)
theorem q_836 : (Jvm.Cond.selects "ThinSeries$Tokens" ({ cls := "ThinSeries$Tokens", name := "refuse", desc := "(I)Z" } : Jvm.MethodName) ({ cls := "ThinSeries$Tokens", name := "refuse", desc := "(I)Z" } : Jvm.MethodName)) ∈ tb := tb_at 836 (by decide +kernel)
theorem q_837 : (Jvm.Cond.code ({ cls := "ThinSeries$Tokens", name := "refuse", desc := "(I)Z" } : Jvm.MethodName) prog_9_method_6_code (2 : Nat) (Option.some Jvm.ClassFile.FieldType.boolean)) ∈ tb := tb_at 837 (by decide +kernel)
theorem q_838 : (Jvm.Cond.methodLink "ThinSeries$PlanReader" (55 : Nat) ({ cls := "ThinSeries$Tokens", name := "next", desc := "()V" } : Jvm.MethodName)) ∈ tb := tb_at 838 (by decide +kernel)
theorem q_839 : (Jvm.Cond.constant "ThinSeries$PlanReader" (87 : Nat) (100000 : Int32)) ∈ tb := tb_at 839 (by decide +kernel)
theorem q_840 : (Jvm.Cond.methodLink "ThinSeries$PlanReader" (88 : Nat) ({ cls := "ThinSeries$Tokens", name := "isNumberWithin", desc := "(II)Z" } : Jvm.MethodName)) ∈ tb := tb_at 840 (by decide +kernel)
theorem q_841 : (Jvm.Cond.instanceMethod ({ cls := "ThinSeries$Tokens", name := "isNumberWithin", desc := "(II)Z" } : Jvm.MethodName)) ∈ tb := tb_at 841 (by decide +kernel)
theorem q_842 : (Jvm.Cond.selects "ThinSeries$Tokens" ({ cls := "ThinSeries$Tokens", name := "isNumberWithin", desc := "(II)Z" } : Jvm.MethodName) ({ cls := "ThinSeries$Tokens", name := "isNumberWithin", desc := "(II)Z" } : Jvm.MethodName)) ∈ tb := tb_at 842 (by decide +kernel)
theorem q_843 : (Jvm.Cond.code ({ cls := "ThinSeries$Tokens", name := "isNumberWithin", desc := "(II)Z" } : Jvm.MethodName) prog_9_method_8_code (3 : Nat) (Option.some Jvm.ClassFile.FieldType.boolean)) ∈ tb := tb_at 843 (by decide +kernel)
theorem q_844 : (Jvm.Cond.methodLink "ThinSeries$Tokens" (77 : Nat) ({ cls := "ThinSeries$Tokens", name := "refuse", desc := "(I)Z" } : Jvm.MethodName)) ∈ tb := tb_at 844 (by decide +kernel)
theorem q_845 : (Jvm.Cond.methodLink "ThinSeries$PlanReader" (94 : Nat) ({ cls := "ThinSeries$Plan", name := "canFollow", desc := "(I)Z" } : Jvm.MethodName)) ∈ tb := tb_at 845 (by decide +kernel)
theorem q_846 : (Jvm.Cond.instanceMethod ({ cls := "ThinSeries$Plan", name := "canFollow", desc := "(I)Z" } : Jvm.MethodName)) ∈ tb := tb_at 846 (by decide +kernel)
theorem q_847 : (Jvm.Cond.selects "ThinSeries$Plan" ({ cls := "ThinSeries$Plan", name := "canFollow", desc := "(I)Z" } : Jvm.MethodName) ({ cls := "ThinSeries$Plan", name := "canFollow", desc := "(I)Z" } : Jvm.MethodName)) ∈ tb := tb_at 847 (by decide +kernel)
theorem q_848 : (Jvm.Cond.code ({ cls := "ThinSeries$Plan", name := "canFollow", desc := "(I)Z" } : Jvm.MethodName) prog_4_method_6_code (3 : Nat) (Option.some Jvm.ClassFile.FieldType.boolean)) ∈ tb := tb_at 848 (by decide +kernel)
theorem q_849 : (Jvm.Cond.methodLink "ThinSeries$PlanReader" (58 : Nat) ({ cls := "ThinSeries$Tokens", name := "takeNumber", desc := "(II)Z" } : Jvm.MethodName)) ∈ tb := tb_at 849 (by decide +kernel)
theorem q_850 : (Jvm.Cond.instanceMethod ({ cls := "ThinSeries$Tokens", name := "takeNumber", desc := "(II)Z" } : Jvm.MethodName)) ∈ tb := tb_at 850 (by decide +kernel)
theorem q_851 : (Jvm.Cond.selects "ThinSeries$Tokens" ({ cls := "ThinSeries$Tokens", name := "takeNumber", desc := "(II)Z" } : Jvm.MethodName) ({ cls := "ThinSeries$Tokens", name := "takeNumber", desc := "(II)Z" } : Jvm.MethodName)) ∈ tb := tb_at 851 (by decide +kernel)
theorem q_852 : (Jvm.Cond.code ({ cls := "ThinSeries$Tokens", name := "takeNumber", desc := "(II)Z" } : Jvm.MethodName) prog_9_method_9_code (3 : Nat) (Option.some Jvm.ClassFile.FieldType.boolean)) ∈ tb := tb_at 852 (by decide +kernel)
theorem q_853 : (Jvm.Cond.methodLink "ThinSeries$Tokens" (81 : Nat) ({ cls := "ThinSeries$Tokens", name := "isNumberWithin", desc := "(II)Z" } : Jvm.MethodName)) ∈ tb := tb_at 853 (by decide +kernel)
theorem q_854 : (Jvm.Cond.methodLink "ThinSeries$PlanReader" (97 : Nat) ({ cls := "ThinSeries$Plan", name := "addTier", desc := "(II)V" } : Jvm.MethodName)) ∈ tb := tb_at 854 (by decide +kernel)
theorem q_855 : (Jvm.Cond.instanceMethod ({ cls := "ThinSeries$Plan", name := "addTier", desc := "(II)V" } : Jvm.MethodName)) ∈ tb := tb_at 855 (by decide +kernel)
theorem q_856 : (Jvm.Cond.selects "ThinSeries$Plan" ({ cls := "ThinSeries$Plan", name := "addTier", desc := "(II)V" } : Jvm.MethodName) ({ cls := "ThinSeries$Plan", name := "addTier", desc := "(II)V" } : Jvm.MethodName)) ∈ tb := tb_at 856 (by decide +kernel)
theorem q_857 : (Jvm.Cond.code ({ cls := "ThinSeries$Plan", name := "addTier", desc := "(II)V" } : Jvm.MethodName) prog_4_method_5_code (3 : Nat) (Option.none : Option Jvm.ClassFile.FieldType)) ∈ tb := tb_at 857 (by decide +kernel)
theorem q_858 : (Jvm.Cond.methodLink "ThinSeries$Plan" (44 : Nat) ({ cls := "ThinSeries$Plan", name := "isFull", desc := "()Z" } : Jvm.MethodName)) ∈ tb := tb_at 858 (by decide +kernel)
theorem q_861 : (Jvm.Cond.methodLink "ThinSeries$PlanReader" (72 : Nat) ({ cls := "ThinSeries$Alarm", name := "clear", desc := "()V" } : Jvm.MethodName)) ∈ tb := tb_at 861 (by decide +kernel)
theorem q_862 : (Jvm.Cond.methodLink "ThinSeries$PlanReader" (75 : Nat) ({ cls := "ThinSeries$PlanReader", name := "readTest", desc := "(LThinSeries$Alarm;I)Z" } : Jvm.MethodName)) ∈ tb := tb_at 862 (by decide +kernel)
theorem q_864 : (Jvm.Cond.instanceMethod ({ cls := "ThinSeries$PlanReader", name := "readTest", desc := "(LThinSeries$Alarm;I)Z" } : Jvm.MethodName)) ∈ tb := tb_at 864 (by decide +kernel)
theorem q_865 : (Jvm.Cond.code ({ cls := "ThinSeries$PlanReader", name := "readTest", desc := "(LThinSeries$Alarm;I)Z" } : Jvm.MethodName) prog_5_method_5_code (5 : Nat) (Option.some Jvm.ClassFile.FieldType.boolean)) ∈ tb := tb_at 865 (by decide +kernel)
theorem q_866 : (Jvm.Cond.methodLink "ThinSeries$PlanReader" (101 : Nat) ({ cls := "ThinSeries$PlanReader", name := "readUnit", desc := "(LThinSeries$Alarm;I)Z" } : Jvm.MethodName)) ∈ tb := tb_at 866 (by decide +kernel)
theorem q_868 : (Jvm.Cond.instanceMethod ({ cls := "ThinSeries$PlanReader", name := "readUnit", desc := "(LThinSeries$Alarm;I)Z" } : Jvm.MethodName)) ∈ tb := tb_at 868 (by decide +kernel)
theorem q_869 : (Jvm.Cond.code ({ cls := "ThinSeries$PlanReader", name := "readUnit", desc := "(LThinSeries$Alarm;I)Z" } : Jvm.MethodName) prog_5_method_6_code (7 : Nat) (Option.some Jvm.ClassFile.FieldType.boolean)) ∈ tb := tb_at 869 (by decide +kernel)
theorem q_871 : (Jvm.Cond.methodLink "ThinSeries$PlanReader" (113 : Nat) ({ cls := "ThinSeries$Tokens", name := "isSign", desc := "(C)Z" } : Jvm.MethodName)) ∈ tb := tb_at 871 (by decide +kernel)
theorem q_872 : (Jvm.Cond.instanceMethod ({ cls := "ThinSeries$Tokens", name := "isSign", desc := "(C)Z" } : Jvm.MethodName)) ∈ tb := tb_at 872 (by decide +kernel)
theorem q_873 : (Jvm.Cond.selects "ThinSeries$Tokens" ({ cls := "ThinSeries$Tokens", name := "isSign", desc := "(C)Z" } : Jvm.MethodName) ({ cls := "ThinSeries$Tokens", name := "isSign", desc := "(C)Z" } : Jvm.MethodName)) ∈ tb := tb_at 873 (by decide +kernel)
theorem q_874 : (Jvm.Cond.code ({ cls := "ThinSeries$Tokens", name := "isSign", desc := "(C)Z" } : Jvm.MethodName) prog_9_method_5_code (2 : Nat) (Option.some Jvm.ClassFile.FieldType.boolean)) ∈ tb := tb_at 874 (by decide +kernel)
theorem q_875 : (Jvm.Cond.methodLink "ThinSeries$PlanReader" (34 : Nat) ({ cls := "ThinSeries$Tokens", name := "takeSign", desc := "(C)Z" } : Jvm.MethodName)) ∈ tb := tb_at 875 (by decide +kernel)
theorem q_876 : (Jvm.Cond.instanceMethod ({ cls := "ThinSeries$Tokens", name := "takeSign", desc := "(C)Z" } : Jvm.MethodName)) ∈ tb := tb_at 876 (by decide +kernel)
theorem q_877 : (Jvm.Cond.selects "ThinSeries$Tokens" ({ cls := "ThinSeries$Tokens", name := "takeSign", desc := "(C)Z" } : Jvm.MethodName) ({ cls := "ThinSeries$Tokens", name := "takeSign", desc := "(C)Z" } : Jvm.MethodName)) ∈ tb := tb_at 877 (by decide +kernel)
theorem q_878 : (Jvm.Cond.code ({ cls := "ThinSeries$Tokens", name := "takeSign", desc := "(C)Z" } : Jvm.MethodName) prog_9_method_7_code (2 : Nat) (Option.some Jvm.ClassFile.FieldType.boolean)) ∈ tb := tb_at 878 (by decide +kernel)
theorem q_879 : (Jvm.Cond.methodLink "ThinSeries$Tokens" (73 : Nat) ({ cls := "ThinSeries$Tokens", name := "isSign", desc := "(C)Z" } : Jvm.MethodName)) ∈ tb := tb_at 879 (by decide +kernel)
theorem q_880 : (Jvm.Cond.methodLink "ThinSeries$PlanReader" (106 : Nat) ({ cls := "ThinSeries$Alarm", name := "addJoint", desc := "(I)V" } : Jvm.MethodName)) ∈ tb := tb_at 880 (by decide +kernel)
theorem q_881 : (Jvm.Cond.instanceMethod ({ cls := "ThinSeries$Alarm", name := "addJoint", desc := "(I)V" } : Jvm.MethodName)) ∈ tb := tb_at 881 (by decide +kernel)
theorem q_882 : (Jvm.Cond.selects "ThinSeries$Alarm" ({ cls := "ThinSeries$Alarm", name := "addJoint", desc := "(I)V" } : Jvm.MethodName) ({ cls := "ThinSeries$Alarm", name := "addJoint", desc := "(I)V" } : Jvm.MethodName)) ∈ tb := tb_at 882 (by decide +kernel)
theorem q_883 : (Jvm.Cond.code ({ cls := "ThinSeries$Alarm", name := "addJoint", desc := "(I)V" } : Jvm.MethodName) prog_2_method_5_code (2 : Nat) (Option.none : Option Jvm.ClassFile.FieldType)) ∈ tb := tb_at 883 (by decide +kernel)
theorem q_884 : (Jvm.Cond.methodLink "ThinSeries$Alarm" (20 : Nat) ({ cls := "ThinSeries$Alarm", name := "addStep", desc := "(II)V" } : Jvm.MethodName)) ∈ tb := tb_at 884 (by decide +kernel)
theorem q_886 : (Jvm.Cond.instanceMethod ({ cls := "ThinSeries$Alarm", name := "addStep", desc := "(II)V" } : Jvm.MethodName)) ∈ tb := tb_at 886 (by decide +kernel)
theorem q_887 : (Jvm.Cond.code ({ cls := "ThinSeries$Alarm", name := "addStep", desc := "(II)V" } : Jvm.MethodName) prog_2_method_6_code (3 : Nat) (Option.none : Option Jvm.ClassFile.FieldType)) ∈ tb := tb_at 887 (by decide +kernel)
theorem q_888 : (Jvm.Cond.methodLink "ThinSeries$PlanReader" (116 : Nat) ({ cls := "ThinSeries$PlanReader", name := "factHere", desc := "()I" } : Jvm.MethodName)) ∈ tb := tb_at 888 (by decide +kernel)
theorem q_890 : (Jvm.Cond.instanceMethod ({ cls := "ThinSeries$PlanReader", name := "factHere", desc := "()I" } : Jvm.MethodName)) ∈ tb := tb_at 890 (by decide +kernel)
theorem q_891 : (Jvm.Cond.code ({ cls := "ThinSeries$PlanReader", name := "factHere", desc := "()I" } : Jvm.MethodName) prog_5_method_7_code (1 : Nat) (Option.some Jvm.ClassFile.FieldType.int)) ∈ tb := tb_at 891 (by decide +kernel)
theorem q_897 : (Jvm.Cond.methodLink "ThinSeries$PlanReader" (120 : Nat) ({ cls := "ThinSeries$PlanReader", name := "relationHere", desc := "()I" } : Jvm.MethodName)) ∈ tb := tb_at 897 (by decide +kernel)
theorem q_899 : (Jvm.Cond.instanceMethod ({ cls := "ThinSeries$PlanReader", name := "relationHere", desc := "()I" } : Jvm.MethodName)) ∈ tb := tb_at 899 (by decide +kernel)
theorem q_900 : (Jvm.Cond.code ({ cls := "ThinSeries$PlanReader", name := "relationHere", desc := "()I" } : Jvm.MethodName) prog_5_method_8_code (1 : Nat) (Option.some Jvm.ClassFile.FieldType.int)) ∈ tb := tb_at 900 (by decide +kernel)
theorem q_901 : (Jvm.Cond.constant "ThinSeries$PlanReader" (123 : Nat) (9999999 : Int32)) ∈ tb := tb_at 901 (by decide +kernel)
theorem q_902 : (Jvm.Cond.methodLink "ThinSeries$PlanReader" (124 : Nat) ({ cls := "ThinSeries$Tokens", name := "takeSigned", desc := "(I)Z" } : Jvm.MethodName)) ∈ tb := tb_at 902 (by decide +kernel)
theorem q_903 : (Jvm.Cond.instanceMethod ({ cls := "ThinSeries$Tokens", name := "takeSigned", desc := "(I)Z" } : Jvm.MethodName)) ∈ tb := tb_at 903 (by decide +kernel)
theorem q_904 : (Jvm.Cond.selects "ThinSeries$Tokens" ({ cls := "ThinSeries$Tokens", name := "takeSigned", desc := "(I)Z" } : Jvm.MethodName) ({ cls := "ThinSeries$Tokens", name := "takeSigned", desc := "(I)Z" } : Jvm.MethodName)) ∈ tb := tb_at 904 (by decide +kernel)
theorem q_905 : (Jvm.Cond.code ({ cls := "ThinSeries$Tokens", name := "takeSigned", desc := "(I)Z" } : Jvm.MethodName) prog_9_method_10_code (3 : Nat) (Option.some Jvm.ClassFile.FieldType.boolean)) ∈ tb := tb_at 905 (by decide +kernel)
theorem q_906 : (Jvm.Cond.methodLink "ThinSeries$PlanReader" (127 : Nat) ({ cls := "ThinSeries$Alarm", name := "addComparison", desc := "(III)V" } : Jvm.MethodName)) ∈ tb := tb_at 906 (by decide +kernel)
theorem q_907 : (Jvm.Cond.instanceMethod ({ cls := "ThinSeries$Alarm", name := "addComparison", desc := "(III)V" } : Jvm.MethodName)) ∈ tb := tb_at 907 (by decide +kernel)
theorem q_908 : (Jvm.Cond.selects "ThinSeries$Alarm" ({ cls := "ThinSeries$Alarm", name := "addComparison", desc := "(III)V" } : Jvm.MethodName) ({ cls := "ThinSeries$Alarm", name := "addComparison", desc := "(III)V" } : Jvm.MethodName)) ∈ tb := tb_at 908 (by decide +kernel)
theorem q_909 : (Jvm.Cond.code ({ cls := "ThinSeries$Alarm", name := "addComparison", desc := "(III)V" } : Jvm.MethodName) prog_2_method_4_code (4 : Nat) (Option.none : Option Jvm.ClassFile.FieldType)) ∈ tb := tb_at 909 (by decide +kernel)
theorem q_912 : (Jvm.Cond.methodLink "ThinSeries$PlanReader" (41 : Nat) ({ cls := "ThinSeries$Plan", name := "takeFirstTiers", desc := "()V" } : Jvm.MethodName)) ∈ tb := tb_at 912 (by decide +kernel)
theorem q_913 : (Jvm.Cond.methodLink "ThinSeries" (119 : Nat) ({ cls := "ThinSeries$Roster", name := "clear", desc := "()V" } : Jvm.MethodName)) ∈ tb := tb_at 913 (by decide +kernel)
theorem q_914 : (Jvm.Cond.instanceMethod ({ cls := "ThinSeries$Roster", name := "clear", desc := "()V" } : Jvm.MethodName)) ∈ tb := tb_at 914 (by decide +kernel)
theorem q_915 : (Jvm.Cond.selects "ThinSeries$Roster" ({ cls := "ThinSeries$Roster", name := "clear", desc := "()V" } : Jvm.MethodName) ({ cls := "ThinSeries$Roster", name := "clear", desc := "()V" } : Jvm.MethodName)) ∈ tb := tb_at 915 (by decide +kernel)
theorem q_916 : (Jvm.Cond.code ({ cls := "ThinSeries$Roster", name := "clear", desc := "()V" } : Jvm.MethodName) prog_6_method_2_code (1 : Nat) (Option.none : Option Jvm.ClassFile.FieldType)) ∈ tb := tb_at 916 (by decide +kernel)
theorem q_917 : (Jvm.Cond.methodLink "ThinSeriesLaw" (96 : Nat) ({ cls := "ThinSeriesLaw", name := "batch", desc := "(LThinSeries;I[J)I" } : Jvm.MethodName)) ∈ tb := tb_at 917 (by decide +kernel)
theorem q_918 : (Jvm.Cond.static ({ cls := "ThinSeriesLaw", name := "batch", desc := "(LThinSeries;I[J)I" } : Jvm.MethodName)) ∈ tb := tb_at 918 (by decide +kernel)
theorem q_919 : (Jvm.Cond.codeWith ({ cls := "ThinSeriesLaw", name := "batch", desc := "(LThinSeries;I[J)I" } : Jvm.MethodName) method_4_code (4 : Nat) (Option.some Jvm.ClassFile.FieldType.int) [((0 : Nat), (9 : Nat), (12 : Nat), (13 : Nat))]) ∈ tb := tb_at 919 (by decide +kernel)
theorem q_920 : (Jvm.Cond.methodLink "ThinSeriesLaw" (15 : Nat) ({ cls := "ThinSeries", name := "batch", desc := "(I)I" } : Jvm.MethodName)) ∈ tb := tb_at 920 (by decide +kernel)
theorem q_921 : (Jvm.Cond.instanceMethod ({ cls := "ThinSeries", name := "batch", desc := "(I)I" } : Jvm.MethodName)) ∈ tb := tb_at 921 (by decide +kernel)
theorem q_922 : (Jvm.Cond.selects "ThinSeries" ({ cls := "ThinSeries", name := "batch", desc := "(I)I" } : Jvm.MethodName) ({ cls := "ThinSeries", name := "batch", desc := "(I)I" } : Jvm.MethodName)) ∈ tb := tb_at 922 (by decide +kernel)
theorem q_923 : (Jvm.Cond.code ({ cls := "ThinSeries", name := "batch", desc := "(I)I" } : Jvm.MethodName) prog_1_method_4_code (4 : Nat) (Option.some Jvm.ClassFile.FieldType.int)) ∈ tb := tb_at 923 (by decide +kernel)
theorem q_924 : (Jvm.Cond.methodLink "ThinSeries" (122 : Nat) ({ cls := "ThinSeries$BatchReader", name := "read", desc := "(I)Z" } : Jvm.MethodName)) ∈ tb := tb_at 924 (by decide +kernel)
theorem q_925 : (Jvm.Cond.instanceMethod ({ cls := "ThinSeries$BatchReader", name := "read", desc := "(I)Z" } : Jvm.MethodName)) ∈ tb := tb_at 925 (by decide +kernel)
theorem q_926 : (Jvm.Cond.selects "ThinSeries$BatchReader" ({ cls := "ThinSeries$BatchReader", name := "read", desc := "(I)Z" } : Jvm.MethodName) ({ cls := "ThinSeries$BatchReader", name := "read", desc := "(I)Z" } : Jvm.MethodName)) ∈ tb := tb_at 926 (by decide +kernel)
theorem q_927 : (Jvm.Cond.code ({ cls := "ThinSeries$BatchReader", name := "read", desc := "(I)Z" } : Jvm.MethodName) prog_3_method_2_code (3 : Nat) (Option.some Jvm.ClassFile.FieldType.boolean)) ∈ tb := tb_at 927 (by decide +kernel)
theorem q_928 : (Jvm.Cond.methodLink "ThinSeries$BatchReader" (32 : Nat) ({ cls := "ThinSeries$Tokens", name := "open", desc := "(I)V" } : Jvm.MethodName)) ∈ tb := tb_at 928 (by decide +kernel)
theorem q_929 : (Jvm.Cond.methodLink "ThinSeries$BatchReader" (40 : Nat) ({ cls := "ThinSeries$BatchReader", name := "readLine", desc := "()Z" } : Jvm.MethodName)) ∈ tb := tb_at 929 (by decide +kernel)
theorem q_931 : (Jvm.Cond.instanceMethod ({ cls := "ThinSeries$BatchReader", name := "readLine", desc := "()Z" } : Jvm.MethodName)) ∈ tb := tb_at 931 (by decide +kernel)
theorem q_932 : (Jvm.Cond.code ({ cls := "ThinSeries$BatchReader", name := "readLine", desc := "()Z" } : Jvm.MethodName) prog_3_method_3_code (2 : Nat) (Option.some Jvm.ClassFile.FieldType.boolean)) ∈ tb := tb_at 932 (by decide +kernel)
theorem q_933 : (Jvm.Cond.methodLink "ThinSeries$BatchReader" (44 : Nat) ({ cls := "ThinSeries$BatchReader", name := "kindHere", desc := "()I" } : Jvm.MethodName)) ∈ tb := tb_at 933 (by decide +kernel)
theorem q_935 : (Jvm.Cond.instanceMethod ({ cls := "ThinSeries$BatchReader", name := "kindHere", desc := "()I" } : Jvm.MethodName)) ∈ tb := tb_at 935 (by decide +kernel)
theorem q_936 : (Jvm.Cond.code ({ cls := "ThinSeries$BatchReader", name := "kindHere", desc := "()I" } : Jvm.MethodName) prog_3_method_4_code (1 : Nat) (Option.some Jvm.ClassFile.FieldType.int)) ∈ tb := tb_at 936 (by decide +kernel)
theorem q_938 : (Jvm.Cond.methodLink "ThinSeries$BatchReader" (72 : Nat) ({ cls := "ThinSeries$Tokens", name := "isWord", desc := "(Ljava/lang/String;)Z" } : Jvm.MethodName)) ∈ tb := tb_at 938 (by decide +kernel)
theorem q_941 : (Jvm.Cond.methodLink "ThinSeries$BatchReader" (48 : Nat) ({ cls := "ThinSeries$Tokens", name := "refuse", desc := "(I)Z" } : Jvm.MethodName)) ∈ tb := tb_at 941 (by decide +kernel)
theorem q_942 : (Jvm.Cond.methodLink "ThinSeries$BatchReader" (52 : Nat) ({ cls := "ThinSeries$Tokens", name := "next", desc := "()V" } : Jvm.MethodName)) ∈ tb := tb_at 942 (by decide +kernel)
theorem q_943 : (Jvm.Cond.methodLink "ThinSeries$BatchReader" (55 : Nat) ({ cls := "ThinSeries$Tokens", name := "takeNumber", desc := "(II)Z" } : Jvm.MethodName)) ∈ tb := tb_at 943 (by decide +kernel)
theorem q_944 : (Jvm.Cond.constant "ThinSeries$BatchReader" (62 : Nat) (1000000 : Int32)) ∈ tb := tb_at 944 (by decide +kernel)
theorem q_945 : (Jvm.Cond.methodLink "ThinSeries$BatchReader" (63 : Nat) ({ cls := "ThinSeries$Tokens", name := "takeSigned", desc := "(I)Z" } : Jvm.MethodName)) ∈ tb := tb_at 945 (by decide +kernel)
theorem q_946 : (Jvm.Cond.methodLink "ThinSeries$BatchReader" (66 : Nat) ({ cls := "ThinSeries$Tokens", name := "takeSign", desc := "(C)Z" } : Jvm.MethodName)) ∈ tb := tb_at 946 (by decide +kernel)
theorem q_947 : (Jvm.Cond.methodLink "ThinSeries" (129 : Nat) ({ cls := "ThinSeries", name := "allLinesWouldGo", desc := "()Z" } : Jvm.MethodName)) ∈ tb := tb_at 947 (by decide +kernel)
theorem q_949 : (Jvm.Cond.instanceMethod ({ cls := "ThinSeries", name := "allLinesWouldGo", desc := "()Z" } : Jvm.MethodName)) ∈ tb := tb_at 949 (by decide +kernel)
theorem q_950 : (Jvm.Cond.code ({ cls := "ThinSeries", name := "allLinesWouldGo", desc := "()Z" } : Jvm.MethodName) prog_1_method_41_code (5 : Nat) (Option.some Jvm.ClassFile.FieldType.boolean)) ∈ tb := tb_at 950 (by decide +kernel)
theorem q_951 : (Jvm.Cond.methodLink "ThinSeries" (363 : Nat) ({ cls := "ThinSeries$Roster", name := "copyFrom", desc := "(LThinSeries$Roster;)V" } : Jvm.MethodName)) ∈ tb := tb_at 951 (by decide +kernel)
theorem q_952 : (Jvm.Cond.instanceMethod ({ cls := "ThinSeries$Roster", name := "copyFrom", desc := "(LThinSeries$Roster;)V" } : Jvm.MethodName)) ∈ tb := tb_at 952 (by decide +kernel)
theorem q_953 : (Jvm.Cond.selects "ThinSeries$Roster" ({ cls := "ThinSeries$Roster", name := "copyFrom", desc := "(LThinSeries$Roster;)V" } : Jvm.MethodName) ({ cls := "ThinSeries$Roster", name := "copyFrom", desc := "(LThinSeries$Roster;)V" } : Jvm.MethodName)) ∈ tb := tb_at 953 (by decide +kernel)
theorem q_954 : (Jvm.Cond.code ({ cls := "ThinSeries$Roster", name := "copyFrom", desc := "(LThinSeries$Roster;)V" } : Jvm.MethodName) prog_6_method_3_code (3 : Nat) (Option.none : Option Jvm.ClassFile.FieldType)) ∈ tb := tb_at 954 (by decide +kernel)
theorem q_955 : (Jvm.Cond.methodLink "ThinSeries" (136 : Nat) ({ cls := "ThinSeries", name := "carryOut", desc := "(I)V" } : Jvm.MethodName)) ∈ tb := tb_at 955 (by decide +kernel)
theorem q_957 : (Jvm.Cond.instanceMethod ({ cls := "ThinSeries", name := "carryOut", desc := "(I)V" } : Jvm.MethodName)) ∈ tb := tb_at 957 (by decide +kernel)
theorem q_958 : (Jvm.Cond.code ({ cls := "ThinSeries", name := "carryOut", desc := "(I)V" } : Jvm.MethodName) prog_1_method_42_code (4 : Nat) (Option.none : Option Jvm.ClassFile.FieldType)) ∈ tb := tb_at 958 (by decide +kernel)
theorem q_959 : (Jvm.Cond.methodLink "ThinSeriesLaw" (120 : Nat) ({ cls := "ThinSeriesLaw", name := "why", desc := "(LThinSeries;I[J)I" } : Jvm.MethodName)) ∈ tb := tb_at 959 (by decide +kernel)
theorem q_960 : (Jvm.Cond.static ({ cls := "ThinSeriesLaw", name := "why", desc := "(LThinSeries;I[J)I" } : Jvm.MethodName)) ∈ tb := tb_at 960 (by decide +kernel)
theorem q_961 : (Jvm.Cond.codeWith ({ cls := "ThinSeriesLaw", name := "why", desc := "(LThinSeries;I[J)I" } : Jvm.MethodName) method_5_code (4 : Nat) (Option.some Jvm.ClassFile.FieldType.int) [((0 : Nat), (9 : Nat), (12 : Nat), (21 : Nat))]) ∈ tb := tb_at 961 (by decide +kernel)
theorem q_962 : (Jvm.Cond.classLink "ThinSeriesLaw" (21 : Nat) "java/util/NoSuchElementException") ∈ tb := tb_at 962 (by decide +kernel)
theorem q_963 : (Jvm.Cond.methodLink "ThinSeriesLaw" (18 : Nat) ({ cls := "ThinSeries", name := "why", desc := "(I)I" } : Jvm.MethodName)) ∈ tb := tb_at 963 (by decide +kernel)
theorem q_964 : (Jvm.Cond.instanceMethod ({ cls := "ThinSeries", name := "why", desc := "(I)I" } : Jvm.MethodName)) ∈ tb := tb_at 964 (by decide +kernel)
theorem q_965 : (Jvm.Cond.selects "ThinSeries" ({ cls := "ThinSeries", name := "why", desc := "(I)I" } : Jvm.MethodName) ({ cls := "ThinSeries", name := "why", desc := "(I)I" } : Jvm.MethodName)) ∈ tb := tb_at 965 (by decide +kernel)
theorem q_966 : (Jvm.Cond.code ({ cls := "ThinSeries", name := "why", desc := "(I)I" } : Jvm.MethodName) prog_1_method_10_code (2 : Nat) (Option.some Jvm.ClassFile.FieldType.int)) ∈ tb := tb_at 966 (by decide +kernel)
theorem q_967 : (Jvm.Cond.methodLink "ThinSeries" (188 : Nat) ({ cls := "ThinSeries", name := "needWhat", desc := "(II)V" } : Jvm.MethodName)) ∈ tb := tb_at 967 (by decide +kernel)
theorem q_968 : (Jvm.Cond.static ({ cls := "ThinSeries", name := "needWhat", desc := "(II)V" } : Jvm.MethodName)) ∈ tb := tb_at 968 (by decide +kernel)
theorem q_969 : (Jvm.Cond.code ({ cls := "ThinSeries", name := "needWhat", desc := "(II)V" } : Jvm.MethodName) prog_1_method_31_code (2 : Nat) (Option.none : Option Jvm.ClassFile.FieldType)) ∈ tb := tb_at 969 (by decide +kernel)
theorem q_970 : (Jvm.Cond.classLink "ThinSeries" (208 : Nat) "java/util/NoSuchElementException") ∈ tb := tb_at 970 (by decide +kernel)
theorem q_972 : (Jvm.Cond.castable "java/util/NoSuchElementException" "java/util/NoSuchElementException") ∈ nwL := nw_at 972 (by decide +kernel)
theorem q_986 : (Jvm.Cond.methodLink "ThinSeriesLaw" (123 : Nat) ({ cls := "ThinSeriesLaw", name := "count", desc := "(LThinSeries;I[J)I" } : Jvm.MethodName)) ∈ tb := tb_at 986 (by decide +kernel)
theorem q_987 : (Jvm.Cond.static ({ cls := "ThinSeriesLaw", name := "count", desc := "(LThinSeries;I[J)I" } : Jvm.MethodName)) ∈ tb := tb_at 987 (by decide +kernel)
theorem q_988 : (Jvm.Cond.codeWith ({ cls := "ThinSeriesLaw", name := "count", desc := "(LThinSeries;I[J)I" } : Jvm.MethodName) method_6_code (4 : Nat) (Option.some Jvm.ClassFile.FieldType.int) [((0 : Nat), (9 : Nat), (12 : Nat), (21 : Nat))]) ∈ tb := tb_at 988 (by decide +kernel)
theorem q_989 : (Jvm.Cond.methodLink "ThinSeriesLaw" (23 : Nat) ({ cls := "ThinSeries", name := "count", desc := "(I)I" } : Jvm.MethodName)) ∈ tb := tb_at 989 (by decide +kernel)
theorem q_990 : (Jvm.Cond.instanceMethod ({ cls := "ThinSeries", name := "count", desc := "(I)I" } : Jvm.MethodName)) ∈ tb := tb_at 990 (by decide +kernel)
theorem q_991 : (Jvm.Cond.selects "ThinSeries" ({ cls := "ThinSeries", name := "count", desc := "(I)I" } : Jvm.MethodName) ({ cls := "ThinSeries", name := "count", desc := "(I)I" } : Jvm.MethodName)) ∈ tb := tb_at 991 (by decide +kernel)
theorem q_992 : (Jvm.Cond.code ({ cls := "ThinSeries", name := "count", desc := "(I)I" } : Jvm.MethodName) prog_1_method_11_code (2 : Nat) (Option.some Jvm.ClassFile.FieldType.int)) ∈ tb := tb_at 992 (by decide +kernel)
theorem q_993 : (Jvm.Cond.methodLink "ThinSeries" (202 : Nat) ({ cls := "ThinSeries$Alarm", name := "isTold", desc := "()Z" } : Jvm.MethodName)) ∈ tb := tb_at 993 (by decide +kernel)
theorem q_994 : (Jvm.Cond.instanceMethod ({ cls := "ThinSeries$Alarm", name := "isTold", desc := "()Z" } : Jvm.MethodName)) ∈ tb := tb_at 994 (by decide +kernel)
theorem q_995 : (Jvm.Cond.selects "ThinSeries$Alarm" ({ cls := "ThinSeries$Alarm", name := "isTold", desc := "()Z" } : Jvm.MethodName) ({ cls := "ThinSeries$Alarm", name := "isTold", desc := "()Z" } : Jvm.MethodName)) ∈ tb := tb_at 995 (by decide +kernel)
theorem q_996 : (Jvm.Cond.code ({ cls := "ThinSeries$Alarm", name := "isTold", desc := "()Z" } : Jvm.MethodName) prog_2_method_3_code (1 : Nat) (Option.some Jvm.ClassFile.FieldType.boolean)) ∈ tb := tb_at 996 (by decide +kernel)
theorem q_997 : (Jvm.Cond.methodLink "ThinSeriesLaw" (126 : Nat) ({ cls := "ThinSeriesLaw", name := "tier", desc := "(LThinSeries;II[J)I" } : Jvm.MethodName)) ∈ tb := tb_at 997 (by decide +kernel)
theorem q_998 : (Jvm.Cond.static ({ cls := "ThinSeriesLaw", name := "tier", desc := "(LThinSeries;II[J)I" } : Jvm.MethodName)) ∈ tb := tb_at 998 (by decide +kernel)
theorem q_999 : (Jvm.Cond.codeWith ({ cls := "ThinSeriesLaw", name := "tier", desc := "(LThinSeries;II[J)I" } : Jvm.MethodName) method_7_code (5 : Nat) (Option.some Jvm.ClassFile.FieldType.int) [((0 : Nat), (10 : Nat), (13 : Nat), (21 : Nat))]) ∈ tb := tb_at 999 (by decide +kernel)
theorem q_1000 : (Jvm.Cond.methodLink "ThinSeriesLaw" (26 : Nat) ({ cls := "ThinSeries", name := "tier", desc := "(II)I" } : Jvm.MethodName)) ∈ tb := tb_at 1000 (by decide +kernel)
theorem q_1001 : (Jvm.Cond.instanceMethod ({ cls := "ThinSeries", name := "tier", desc := "(II)I" } : Jvm.MethodName)) ∈ tb := tb_at 1001 (by decide +kernel)
theorem q_1002 : (Jvm.Cond.selects "ThinSeries" ({ cls := "ThinSeries", name := "tier", desc := "(II)I" } : Jvm.MethodName) ({ cls := "ThinSeries", name := "tier", desc := "(II)I" } : Jvm.MethodName)) ∈ tb := tb_at 1002 (by decide +kernel)
theorem q_1003 : (Jvm.Cond.code ({ cls := "ThinSeries", name := "tier", desc := "(II)I" } : Jvm.MethodName) prog_1_method_12_code (3 : Nat) (Option.some Jvm.ClassFile.FieldType.int)) ∈ tb := tb_at 1003 (by decide +kernel)
theorem q_1004 : (Jvm.Cond.methodLink "ThinSeries" (213 : Nat) ({ cls := "ThinSeries", name := "needTier", desc := "(I)V" } : Jvm.MethodName)) ∈ tb := tb_at 1004 (by decide +kernel)
theorem q_1006 : (Jvm.Cond.instanceMethod ({ cls := "ThinSeries", name := "needTier", desc := "(I)V" } : Jvm.MethodName)) ∈ tb := tb_at 1006 (by decide +kernel)
theorem q_1007 : (Jvm.Cond.code ({ cls := "ThinSeries", name := "needTier", desc := "(I)V" } : Jvm.MethodName) prog_1_method_32_code (2 : Nat) (Option.none : Option Jvm.ClassFile.FieldType)) ∈ tb := tb_at 1007 (by decide +kernel)
theorem q_1009 : (Jvm.Cond.methodLink "ThinSeriesLaw" (130 : Nat) ({ cls := "ThinSeriesLaw", name := "used", desc := "(LThinSeries;I[J)I" } : Jvm.MethodName)) ∈ tb := tb_at 1009 (by decide +kernel)
theorem q_1010 : (Jvm.Cond.static ({ cls := "ThinSeriesLaw", name := "used", desc := "(LThinSeries;I[J)I" } : Jvm.MethodName)) ∈ tb := tb_at 1010 (by decide +kernel)
theorem q_1011 : (Jvm.Cond.codeWith ({ cls := "ThinSeriesLaw", name := "used", desc := "(LThinSeries;I[J)I" } : Jvm.MethodName) method_8_code (4 : Nat) (Option.some Jvm.ClassFile.FieldType.int) [((0 : Nat), (9 : Nat), (12 : Nat), (21 : Nat))]) ∈ tb := tb_at 1011 (by decide +kernel)
theorem q_1012 : (Jvm.Cond.methodLink "ThinSeriesLaw" (30 : Nat) ({ cls := "ThinSeries", name := "used", desc := "(I)I" } : Jvm.MethodName)) ∈ tb := tb_at 1012 (by decide +kernel)
theorem q_1013 : (Jvm.Cond.instanceMethod ({ cls := "ThinSeries", name := "used", desc := "(I)I" } : Jvm.MethodName)) ∈ tb := tb_at 1013 (by decide +kernel)
theorem q_1014 : (Jvm.Cond.selects "ThinSeries" ({ cls := "ThinSeries", name := "used", desc := "(I)I" } : Jvm.MethodName) ({ cls := "ThinSeries", name := "used", desc := "(I)I" } : Jvm.MethodName)) ∈ tb := tb_at 1014 (by decide +kernel)
theorem q_1015 : (Jvm.Cond.code ({ cls := "ThinSeries", name := "used", desc := "(I)I" } : Jvm.MethodName) prog_1_method_13_code (2 : Nat) (Option.some Jvm.ClassFile.FieldType.int)) ∈ tb := tb_at 1015 (by decide +kernel)
theorem q_1017 : (Jvm.Cond.methodLink "ThinSeriesLaw" (133 : Nat) ({ cls := "ThinSeriesLaw", name := "of", desc := "(LThinSeries;II[J)I" } : Jvm.MethodName)) ∈ tb := tb_at 1017 (by decide +kernel)
theorem q_1018 : (Jvm.Cond.static ({ cls := "ThinSeriesLaw", name := "of", desc := "(LThinSeries;II[J)I" } : Jvm.MethodName)) ∈ tb := tb_at 1018 (by decide +kernel)
theorem q_1019 : (Jvm.Cond.codeWith ({ cls := "ThinSeriesLaw", name := "of", desc := "(LThinSeries;II[J)I" } : Jvm.MethodName) method_9_code (5 : Nat) (Option.some Jvm.ClassFile.FieldType.int) [((0 : Nat), (9 : Nat), (12 : Nat), (21 : Nat))]) ∈ tb := tb_at 1019 (by decide +kernel)
theorem q_1020 : (Jvm.Cond.methodLink "ThinSeriesLaw" (33 : Nat) ({ cls := "ThinSeries", name := "of", desc := "(II)J" } : Jvm.MethodName)) ∈ tb := tb_at 1020 (by decide +kernel)
theorem q_1021 : (Jvm.Cond.instanceMethod ({ cls := "ThinSeries", name := "of", desc := "(II)J" } : Jvm.MethodName)) ∈ tb := tb_at 1021 (by decide +kernel)
theorem q_1022 : (Jvm.Cond.selects "ThinSeries" ({ cls := "ThinSeries", name := "of", desc := "(II)J" } : Jvm.MethodName) ({ cls := "ThinSeries", name := "of", desc := "(II)J" } : Jvm.MethodName)) ∈ tb := tb_at 1022 (by decide +kernel)
theorem q_1023 : (Jvm.Cond.code ({ cls := "ThinSeries", name := "of", desc := "(II)J" } : Jvm.MethodName) prog_1_method_14_code (4 : Nat) (Option.some Jvm.ClassFile.FieldType.long)) ∈ tb := tb_at 1023 (by decide +kernel)
theorem q_1024 : (Jvm.Cond.methodLink "ThinSeries" (227 : Nat) ({ cls := "ThinSeries", name := "known", desc := "(I)LThinSeries$Series;" } : Jvm.MethodName)) ∈ tb := tb_at 1024 (by decide +kernel)
theorem q_1026 : (Jvm.Cond.instanceMethod ({ cls := "ThinSeries", name := "known", desc := "(I)LThinSeries$Series;" } : Jvm.MethodName)) ∈ tb := tb_at 1026 (by decide +kernel)
theorem q_1027 : (Jvm.Cond.code ({ cls := "ThinSeries", name := "known", desc := "(I)LThinSeries$Series;" } : Jvm.MethodName) prog_1_method_33_code (2 : Nat) (Option.some (Jvm.ClassFile.FieldType.object "ThinSeries$Series"))) ∈ tb := tb_at 1027 (by decide +kernel)
theorem q_1028 : (Jvm.Cond.methodLink "ThinSeriesLaw" (136 : Nat) ({ cls := "ThinSeriesLaw", name := "seam", desc := "(LThinSeries;II[J)I" } : Jvm.MethodName)) ∈ tb := tb_at 1028 (by decide +kernel)
theorem q_1029 : (Jvm.Cond.static ({ cls := "ThinSeriesLaw", name := "seam", desc := "(LThinSeries;II[J)I" } : Jvm.MethodName)) ∈ tb := tb_at 1029 (by decide +kernel)
theorem q_1030 : (Jvm.Cond.codeWith ({ cls := "ThinSeriesLaw", name := "seam", desc := "(LThinSeries;II[J)I" } : Jvm.MethodName) method_10_code (5 : Nat) (Option.some Jvm.ClassFile.FieldType.int) [((0 : Nat), (10 : Nat), (13 : Nat), (21 : Nat))]) ∈ tb := tb_at 1030 (by decide +kernel)
theorem q_1031 : (Jvm.Cond.methodLink "ThinSeriesLaw" (37 : Nat) ({ cls := "ThinSeries", name := "seam", desc := "(II)I" } : Jvm.MethodName)) ∈ tb := tb_at 1031 (by decide +kernel)
theorem q_1032 : (Jvm.Cond.instanceMethod ({ cls := "ThinSeries", name := "seam", desc := "(II)I" } : Jvm.MethodName)) ∈ tb := tb_at 1032 (by decide +kernel)
theorem q_1033 : (Jvm.Cond.selects "ThinSeries" ({ cls := "ThinSeries", name := "seam", desc := "(II)I" } : Jvm.MethodName) ({ cls := "ThinSeries", name := "seam", desc := "(II)I" } : Jvm.MethodName)) ∈ tb := tb_at 1033 (by decide +kernel)
theorem q_1034 : (Jvm.Cond.code ({ cls := "ThinSeries", name := "seam", desc := "(II)I" } : Jvm.MethodName) prog_1_method_15_code (4 : Nat) (Option.some Jvm.ClassFile.FieldType.int)) ∈ tb := tb_at 1034 (by decide +kernel)
theorem q_1035 : (Jvm.Cond.methodLink "ThinSeriesLaw" (139 : Nat) ({ cls := "ThinSeriesLaw", name := "buckets", desc := "(LThinSeries;II[J)I" } : Jvm.MethodName)) ∈ tb := tb_at 1035 (by decide +kernel)
theorem q_1036 : (Jvm.Cond.static ({ cls := "ThinSeriesLaw", name := "buckets", desc := "(LThinSeries;II[J)I" } : Jvm.MethodName)) ∈ tb := tb_at 1036 (by decide +kernel)
theorem q_1037 : (Jvm.Cond.codeWith ({ cls := "ThinSeriesLaw", name := "buckets", desc := "(LThinSeries;II[J)I" } : Jvm.MethodName) method_11_code (5 : Nat) (Option.some Jvm.ClassFile.FieldType.int) [((0 : Nat), (10 : Nat), (13 : Nat), (21 : Nat))]) ∈ tb := tb_at 1037 (by decide +kernel)
theorem q_1038 : (Jvm.Cond.methodLink "ThinSeriesLaw" (40 : Nat) ({ cls := "ThinSeries", name := "buckets", desc := "(II)I" } : Jvm.MethodName)) ∈ tb := tb_at 1038 (by decide +kernel)
theorem q_1039 : (Jvm.Cond.instanceMethod ({ cls := "ThinSeries", name := "buckets", desc := "(II)I" } : Jvm.MethodName)) ∈ tb := tb_at 1039 (by decide +kernel)
theorem q_1040 : (Jvm.Cond.selects "ThinSeries" ({ cls := "ThinSeries", name := "buckets", desc := "(II)I" } : Jvm.MethodName) ({ cls := "ThinSeries", name := "buckets", desc := "(II)I" } : Jvm.MethodName)) ∈ tb := tb_at 1040 (by decide +kernel)
theorem q_1041 : (Jvm.Cond.code ({ cls := "ThinSeries", name := "buckets", desc := "(II)I" } : Jvm.MethodName) prog_1_method_16_code (4 : Nat) (Option.some Jvm.ClassFile.FieldType.int)) ∈ tb := tb_at 1041 (by decide +kernel)
theorem q_1042 : (Jvm.Cond.methodLink "ThinSeries" (252 : Nat) ({ cls := "ThinSeries$Series", name := "endOf", desc := "(I)I" } : Jvm.MethodName)) ∈ tb := tb_at 1042 (by decide +kernel)
theorem q_1043 : (Jvm.Cond.instanceMethod ({ cls := "ThinSeries$Series", name := "endOf", desc := "(I)I" } : Jvm.MethodName)) ∈ tb := tb_at 1043 (by decide +kernel)
theorem q_1044 : (Jvm.Cond.selects "ThinSeries$Series" ({ cls := "ThinSeries$Series", name := "endOf", desc := "(I)I" } : Jvm.MethodName) ({ cls := "ThinSeries$Series", name := "endOf", desc := "(I)I" } : Jvm.MethodName)) ∈ tb := tb_at 1044 (by decide +kernel)
theorem q_1045 : (Jvm.Cond.code ({ cls := "ThinSeries$Series", name := "endOf", desc := "(I)I" } : Jvm.MethodName) prog_7_method_6_code (2 : Nat) (Option.some Jvm.ClassFile.FieldType.int)) ∈ tb := tb_at 1045 (by decide +kernel)
theorem q_1046 : (Jvm.Cond.methodLink "ThinSeries" (256 : Nat) ({ cls := "ThinSeries$Series", name := "beginOf", desc := "(I)I" } : Jvm.MethodName)) ∈ tb := tb_at 1046 (by decide +kernel)
theorem q_1047 : (Jvm.Cond.instanceMethod ({ cls := "ThinSeries$Series", name := "beginOf", desc := "(I)I" } : Jvm.MethodName)) ∈ tb := tb_at 1047 (by decide +kernel)
theorem q_1048 : (Jvm.Cond.selects "ThinSeries$Series" ({ cls := "ThinSeries$Series", name := "beginOf", desc := "(I)I" } : Jvm.MethodName) ({ cls := "ThinSeries$Series", name := "beginOf", desc := "(I)I" } : Jvm.MethodName)) ∈ tb := tb_at 1048 (by decide +kernel)
theorem q_1049 : (Jvm.Cond.code ({ cls := "ThinSeries$Series", name := "beginOf", desc := "(I)I" } : Jvm.MethodName) prog_7_method_5_code (2 : Nat) (Option.some Jvm.ClassFile.FieldType.int)) ∈ tb := tb_at 1049 (by decide +kernel)
theorem q_1050 : (Jvm.Cond.methodLink "ThinSeriesLaw" (142 : Nat) ({ cls := "ThinSeriesLaw", name := "bucket", desc := "(LThinSeries;IIII[J)I" } : Jvm.MethodName)) ∈ tb := tb_at 1050 (by decide +kernel)
theorem q_1051 : (Jvm.Cond.static ({ cls := "ThinSeriesLaw", name := "bucket", desc := "(LThinSeries;IIII[J)I" } : Jvm.MethodName)) ∈ tb := tb_at 1051 (by decide +kernel)
theorem q_1052 : (Jvm.Cond.codeWith ({ cls := "ThinSeriesLaw", name := "bucket", desc := "(LThinSeries;IIII[J)I" } : Jvm.MethodName) method_12_code (7 : Nat) (Option.some Jvm.ClassFile.FieldType.int) [((0 : Nat), (13 : Nat), (16 : Nat), (21 : Nat))]) ∈ tb := tb_at 1052 (by decide +kernel)
theorem q_1053 : (Jvm.Cond.methodLink "ThinSeriesLaw" (43 : Nat) ({ cls := "ThinSeries", name := "bucket", desc := "(IIII)J" } : Jvm.MethodName)) ∈ tb := tb_at 1053 (by decide +kernel)
theorem q_1054 : (Jvm.Cond.instanceMethod ({ cls := "ThinSeries", name := "bucket", desc := "(IIII)J" } : Jvm.MethodName)) ∈ tb := tb_at 1054 (by decide +kernel)
theorem q_1055 : (Jvm.Cond.selects "ThinSeries" ({ cls := "ThinSeries", name := "bucket", desc := "(IIII)J" } : Jvm.MethodName) ({ cls := "ThinSeries", name := "bucket", desc := "(IIII)J" } : Jvm.MethodName)) ∈ tb := tb_at 1055 (by decide +kernel)
theorem q_1056 : (Jvm.Cond.code ({ cls := "ThinSeries", name := "bucket", desc := "(IIII)J" } : Jvm.MethodName) prog_1_method_17_code (7 : Nat) (Option.some Jvm.ClassFile.FieldType.long)) ∈ tb := tb_at 1056 (by decide +kernel)
theorem q_1058 : (Jvm.Cond.methodLink "ThinSeries" (261 : Nat) ({ cls := "ThinSeries$Series", name := "fact", desc := "(II)J" } : Jvm.MethodName)) ∈ tb := tb_at 1058 (by decide +kernel)
theorem q_1059 : (Jvm.Cond.instanceMethod ({ cls := "ThinSeries$Series", name := "fact", desc := "(II)J" } : Jvm.MethodName)) ∈ tb := tb_at 1059 (by decide +kernel)
theorem q_1060 : (Jvm.Cond.selects "ThinSeries$Series" ({ cls := "ThinSeries$Series", name := "fact", desc := "(II)J" } : Jvm.MethodName) ({ cls := "ThinSeries$Series", name := "fact", desc := "(II)J" } : Jvm.MethodName)) ∈ tb := tb_at 1060 (by decide +kernel)
theorem q_1061 : (Jvm.Cond.code ({ cls := "ThinSeries$Series", name := "fact", desc := "(II)J" } : Jvm.MethodName) prog_7_method_11_code (3 : Nat) (Option.some Jvm.ClassFile.FieldType.long)) ∈ tb := tb_at 1061 (by decide +kernel)
theorem q_1062 : (Jvm.Cond.methodLink "ThinSeries$Series" (76 : Nat) ({ cls := "ThinSeries$Series", name := "mean", desc := "(I)I" } : Jvm.MethodName)) ∈ tb := tb_at 1062 (by decide +kernel)
theorem q_1063 : (Jvm.Cond.instanceMethod ({ cls := "ThinSeries$Series", name := "mean", desc := "(I)I" } : Jvm.MethodName)) ∈ tb := tb_at 1063 (by decide +kernel)
theorem q_1064 : (Jvm.Cond.selects "ThinSeries$Series" ({ cls := "ThinSeries$Series", name := "mean", desc := "(I)I" } : Jvm.MethodName) ({ cls := "ThinSeries$Series", name := "mean", desc := "(I)I" } : Jvm.MethodName)) ∈ tb := tb_at 1064 (by decide +kernel)
theorem q_1065 : (Jvm.Cond.code ({ cls := "ThinSeries$Series", name := "mean", desc := "(I)I" } : Jvm.MethodName) prog_7_method_10_code (2 : Nat) (Option.some Jvm.ClassFile.FieldType.int)) ∈ tb := tb_at 1065 (by decide +kernel)
theorem q_1066 : (Jvm.Cond.methodLinkNest "ThinSeries$Series" (72 : Nat) ({ cls := "ThinSeries", name := "quotient", desc := "(JI)I" } : Jvm.MethodName) "ThinSeries") ∈ nwL := nw_at 1066 (by decide +kernel)
theorem q_1067 : (Jvm.Cond.static ({ cls := "ThinSeries", name := "quotient", desc := "(JI)I" } : Jvm.MethodName)) ∈ tb := tb_at 1067 (by decide +kernel)
theorem q_1068 : (Jvm.Cond.code ({ cls := "ThinSeries", name := "quotient", desc := "(JI)I" } : Jvm.MethodName) prog_1_method_46_code (3 : Nat) (Option.some Jvm.ClassFile.FieldType.int)) ∈ tb := tb_at 1068 (by decide +kernel)
theorem q_1069 : (Jvm.Cond.methodLink "ThinSeries" (395 : Nat) ({ cls := "java/lang/Math", name := "floorDiv", desc := "(JJ)J" } : Jvm.MethodName)) ∈ tb := tb_at 1069 (by decide +kernel)
theorem q_1070 : (Jvm.Cond.static ({ cls := "java/lang/Math", name := "floorDiv", desc := "(JJ)J" } : Jvm.MethodName)) ∈ tb := tb_at 1070 (by decide +kernel)
theorem q_1071 : (Jvm.Cond.code ({ cls := "java/lang/Math", name := "floorDiv", desc := "(JJ)J" } : Jvm.MethodName) prog_19_method_49_code (6 : Nat) (Option.some Jvm.ClassFile.FieldType.long)) ∈ tb := tb_at 1071 (by decide +kernel)
theorem q_1072 : (Jvm.Cond.methodLink "ThinSeriesLaw" (146 : Nat) ({ cls := "ThinSeriesLaw", name := "at", desc := "(LThinSeries;III[J)I" } : Jvm.MethodName)) ∈ tb := tb_at 1072 (by decide +kernel)
theorem q_1073 : (Jvm.Cond.static ({ cls := "ThinSeriesLaw", name := "at", desc := "(LThinSeries;III[J)I" } : Jvm.MethodName)) ∈ tb := tb_at 1073 (by decide +kernel)
theorem q_1074 : (Jvm.Cond.codeWith ({ cls := "ThinSeriesLaw", name := "at", desc := "(LThinSeries;III[J)I" } : Jvm.MethodName) method_13_code (6 : Nat) (Option.some Jvm.ClassFile.FieldType.int) [((0 : Nat), (12 : Nat), (15 : Nat), (21 : Nat))]) ∈ tb := tb_at 1074 (by decide +kernel)
theorem q_1075 : (Jvm.Cond.methodLink "ThinSeriesLaw" (47 : Nat) ({ cls := "ThinSeries", name := "at", desc := "(III)I" } : Jvm.MethodName)) ∈ tb := tb_at 1075 (by decide +kernel)
theorem q_1076 : (Jvm.Cond.instanceMethod ({ cls := "ThinSeries", name := "at", desc := "(III)I" } : Jvm.MethodName)) ∈ tb := tb_at 1076 (by decide +kernel)
theorem q_1077 : (Jvm.Cond.selects "ThinSeries" ({ cls := "ThinSeries", name := "at", desc := "(III)I" } : Jvm.MethodName) ({ cls := "ThinSeries", name := "at", desc := "(III)I" } : Jvm.MethodName)) ∈ tb := tb_at 1077 (by decide +kernel)
theorem q_1078 : (Jvm.Cond.code ({ cls := "ThinSeries", name := "at", desc := "(III)I" } : Jvm.MethodName) prog_1_method_18_code (7 : Nat) (Option.some Jvm.ClassFile.FieldType.int)) ∈ tb := tb_at 1078 (by decide +kernel)
theorem q_1080 : (Jvm.Cond.methodLink "ThinSeries" (270 : Nat) ({ cls := "ThinSeries", name := "multipleUpTo", desc := "(II)I" } : Jvm.MethodName)) ∈ tb := tb_at 1080 (by decide +kernel)
theorem q_1081 : (Jvm.Cond.methodLink "ThinSeries" (274 : Nat) ({ cls := "ThinSeries$Series", name := "pointsFrom", desc := "(I)I" } : Jvm.MethodName)) ∈ tb := tb_at 1081 (by decide +kernel)
theorem q_1082 : (Jvm.Cond.instanceMethod ({ cls := "ThinSeries$Series", name := "pointsFrom", desc := "(I)I" } : Jvm.MethodName)) ∈ tb := tb_at 1082 (by decide +kernel)
theorem q_1083 : (Jvm.Cond.selects "ThinSeries$Series" ({ cls := "ThinSeries$Series", name := "pointsFrom", desc := "(I)I" } : Jvm.MethodName) ({ cls := "ThinSeries$Series", name := "pointsFrom", desc := "(I)I" } : Jvm.MethodName)) ∈ tb := tb_at 1083 (by decide +kernel)
theorem q_1084 : (Jvm.Cond.code ({ cls := "ThinSeries$Series", name := "pointsFrom", desc := "(I)I" } : Jvm.MethodName) prog_7_method_9_code (3 : Nat) (Option.some Jvm.ClassFile.FieldType.int)) ∈ tb := tb_at 1084 (by decide +kernel)
theorem q_1085 : (Jvm.Cond.methodLink "ThinSeriesLaw" (150 : Nat) ({ cls := "ThinSeriesLaw", name := "total", desc := "(LThinSeries;IIII[J)I" } : Jvm.MethodName)) ∈ tb := tb_at 1085 (by decide +kernel)
theorem q_1086 : (Jvm.Cond.static ({ cls := "ThinSeriesLaw", name := "total", desc := "(LThinSeries;IIII[J)I" } : Jvm.MethodName)) ∈ tb := tb_at 1086 (by decide +kernel)
theorem q_1087 : (Jvm.Cond.codeWith ({ cls := "ThinSeriesLaw", name := "total", desc := "(LThinSeries;IIII[J)I" } : Jvm.MethodName) method_14_code (7 : Nat) (Option.some Jvm.ClassFile.FieldType.int) [((0 : Nat), (13 : Nat), (16 : Nat), (21 : Nat)), ((0 : Nat), (13 : Nat), (20 : Nat), (13 : Nat))]) ∈ tb := tb_at 1087 (by decide +kernel)
theorem q_1088 : (Jvm.Cond.methodLink "ThinSeriesLaw" (51 : Nat) ({ cls := "ThinSeries", name := "total", desc := "(IIII)J" } : Jvm.MethodName)) ∈ tb := tb_at 1088 (by decide +kernel)
theorem q_1089 : (Jvm.Cond.instanceMethod ({ cls := "ThinSeries", name := "total", desc := "(IIII)J" } : Jvm.MethodName)) ∈ tb := tb_at 1089 (by decide +kernel)
theorem q_1090 : (Jvm.Cond.selects "ThinSeries" ({ cls := "ThinSeries", name := "total", desc := "(IIII)J" } : Jvm.MethodName) ({ cls := "ThinSeries", name := "total", desc := "(IIII)J" } : Jvm.MethodName)) ∈ tb := tb_at 1090 (by decide +kernel)
theorem q_1091 : (Jvm.Cond.code ({ cls := "ThinSeries", name := "total", desc := "(IIII)J" } : Jvm.MethodName) prog_1_method_19_code (6 : Nat) (Option.some Jvm.ClassFile.FieldType.long)) ∈ tb := tb_at 1091 (by decide +kernel)
theorem q_1093 : (Jvm.Cond.methodLink "ThinSeries" (279 : Nat) ({ cls := "ThinSeries", name := "tallyStretch", desc := "(LThinSeries$Series;II)V" } : Jvm.MethodName)) ∈ tb := tb_at 1093 (by decide +kernel)
theorem q_1095 : (Jvm.Cond.instanceMethod ({ cls := "ThinSeries", name := "tallyStretch", desc := "(LThinSeries$Series;II)V" } : Jvm.MethodName)) ∈ tb := tb_at 1095 (by decide +kernel)
theorem q_1096 : (Jvm.Cond.code ({ cls := "ThinSeries", name := "tallyStretch", desc := "(LThinSeries$Series;II)V" } : Jvm.MethodName) prog_1_method_44_code (7 : Nat) (Option.none : Option Jvm.ClassFile.FieldType)) ∈ tb := tb_at 1096 (by decide +kernel)
theorem q_1097 : (Jvm.Cond.methodLink "ThinSeries" (379 : Nat) ({ cls := "ThinSeries$Series", name := "spanAt", desc := "(I)I" } : Jvm.MethodName)) ∈ tb := tb_at 1097 (by decide +kernel)
theorem q_1098 : (Jvm.Cond.instanceMethod ({ cls := "ThinSeries$Series", name := "spanAt", desc := "(I)I" } : Jvm.MethodName)) ∈ tb := tb_at 1098 (by decide +kernel)
theorem q_1099 : (Jvm.Cond.selects "ThinSeries$Series" ({ cls := "ThinSeries$Series", name := "spanAt", desc := "(I)I" } : Jvm.MethodName) ({ cls := "ThinSeries$Series", name := "spanAt", desc := "(I)I" } : Jvm.MethodName)) ∈ tb := tb_at 1099 (by decide +kernel)
theorem q_1100 : (Jvm.Cond.code ({ cls := "ThinSeries$Series", name := "spanAt", desc := "(I)I" } : Jvm.MethodName) prog_7_method_4_code (3 : Nat) (Option.some Jvm.ClassFile.FieldType.int)) ∈ tb := tb_at 1100 (by decide +kernel)
theorem q_1101 : (Jvm.Cond.methodLink "ThinSeries" (382 : Nat) ({ cls := "java/lang/Math", name := "min", desc := "(II)I" } : Jvm.MethodName)) ∈ tb := tb_at 1101 (by decide +kernel)
theorem q_1102 : (Jvm.Cond.methodLink "ThinSeries" (286 : Nat) ({ cls := "ThinSeries$Tally", name := "fact", desc := "(I)J" } : Jvm.MethodName)) ∈ tb := tb_at 1102 (by decide +kernel)
theorem q_1103 : (Jvm.Cond.instanceMethod ({ cls := "ThinSeries$Tally", name := "fact", desc := "(I)J" } : Jvm.MethodName)) ∈ tb := tb_at 1103 (by decide +kernel)
theorem q_1104 : (Jvm.Cond.selects "ThinSeries$Tally" ({ cls := "ThinSeries$Tally", name := "fact", desc := "(I)J" } : Jvm.MethodName) ({ cls := "ThinSeries$Tally", name := "fact", desc := "(I)J" } : Jvm.MethodName)) ∈ tb := tb_at 1104 (by decide +kernel)
theorem q_1105 : (Jvm.Cond.code ({ cls := "ThinSeries$Tally", name := "fact", desc := "(I)J" } : Jvm.MethodName) prog_8_method_4_code (2 : Nat) (Option.some Jvm.ClassFile.FieldType.long)) ∈ tb := tb_at 1105 (by decide +kernel)
theorem q_1106 : (Jvm.Cond.methodLink "ThinSeriesLaw" (153 : Nat) ({ cls := "ThinSeriesLaw", name := "gap", desc := "(LThinSeries;IIIZ[J)I" } : Jvm.MethodName)) ∈ tb := tb_at 1106 (by decide +kernel)
theorem q_1107 : (Jvm.Cond.static ({ cls := "ThinSeriesLaw", name := "gap", desc := "(LThinSeries;IIIZ[J)I" } : Jvm.MethodName)) ∈ tb := tb_at 1107 (by decide +kernel)
theorem q_1108 : (Jvm.Cond.codeWith ({ cls := "ThinSeriesLaw", name := "gap", desc := "(LThinSeries;IIIZ[J)I" } : Jvm.MethodName) method_15_code (7 : Nat) (Option.some Jvm.ClassFile.FieldType.int) [((0 : Nat), (14 : Nat), (17 : Nat), (21 : Nat))]) ∈ tb := tb_at 1108 (by decide +kernel)
theorem q_1109 : (Jvm.Cond.methodLink "ThinSeriesLaw" (54 : Nat) ({ cls := "ThinSeries", name := "gap", desc := "(IIIZ)I" } : Jvm.MethodName)) ∈ tb := tb_at 1109 (by decide +kernel)
theorem q_1110 : (Jvm.Cond.instanceMethod ({ cls := "ThinSeries", name := "gap", desc := "(IIIZ)I" } : Jvm.MethodName)) ∈ tb := tb_at 1110 (by decide +kernel)
theorem q_1111 : (Jvm.Cond.selects "ThinSeries" ({ cls := "ThinSeries", name := "gap", desc := "(IIIZ)I" } : Jvm.MethodName) ({ cls := "ThinSeries", name := "gap", desc := "(IIIZ)I" } : Jvm.MethodName)) ∈ tb := tb_at 1111 (by decide +kernel)
theorem q_1112 : (Jvm.Cond.code ({ cls := "ThinSeries", name := "gap", desc := "(IIIZ)I" } : Jvm.MethodName) prog_1_method_20_code (11 : Nat) (Option.some Jvm.ClassFile.FieldType.int)) ∈ tb := tb_at 1112 (by decide +kernel)
theorem q_1113 : (Jvm.Cond.methodLink "ThinSeries" (292 : Nat) ({ cls := "ThinSeries", name := "quotient", desc := "(JI)I" } : Jvm.MethodName)) ∈ tb := tb_at 1113 (by decide +kernel)
theorem q_1115 : (Jvm.Cond.methodLink "ThinSeriesLaw" (157 : Nat) ({ cls := "ThinSeriesLaw", name := "bar", desc := "(LThinSeries;IIII[J)I" } : Jvm.MethodName)) ∈ tb := tb_at 1115 (by decide +kernel)
theorem q_1116 : (Jvm.Cond.static ({ cls := "ThinSeriesLaw", name := "bar", desc := "(LThinSeries;IIII[J)I" } : Jvm.MethodName)) ∈ tb := tb_at 1116 (by decide +kernel)
theorem q_1117 : (Jvm.Cond.codeWith ({ cls := "ThinSeriesLaw", name := "bar", desc := "(LThinSeries;IIII[J)I" } : Jvm.MethodName) method_16_code (7 : Nat) (Option.some Jvm.ClassFile.FieldType.int) [((0 : Nat), (13 : Nat), (16 : Nat), (21 : Nat)), ((0 : Nat), (13 : Nat), (20 : Nat), (13 : Nat))]) ∈ tb := tb_at 1117 (by decide +kernel)
theorem q_1118 : (Jvm.Cond.methodLink "ThinSeriesLaw" (58 : Nat) ({ cls := "ThinSeries", name := "bar", desc := "(IIII)J" } : Jvm.MethodName)) ∈ tb := tb_at 1118 (by decide +kernel)
theorem q_1119 : (Jvm.Cond.instanceMethod ({ cls := "ThinSeries", name := "bar", desc := "(IIII)J" } : Jvm.MethodName)) ∈ tb := tb_at 1119 (by decide +kernel)
theorem q_1120 : (Jvm.Cond.selects "ThinSeries" ({ cls := "ThinSeries", name := "bar", desc := "(IIII)J" } : Jvm.MethodName) ({ cls := "ThinSeries", name := "bar", desc := "(IIII)J" } : Jvm.MethodName)) ∈ tb := tb_at 1120 (by decide +kernel)
theorem q_1121 : (Jvm.Cond.code ({ cls := "ThinSeries", name := "bar", desc := "(IIII)J" } : Jvm.MethodName) prog_1_method_21_code (8 : Nat) (Option.some Jvm.ClassFile.FieldType.long)) ∈ tb := tb_at 1121 (by decide +kernel)
theorem q_1122 : (Jvm.Cond.methodLink "ThinSeries" (298 : Nat) ({ cls := "ThinSeries$Plan", name := "isBarWidth", desc := "(I)Z" } : Jvm.MethodName)) ∈ tb := tb_at 1122 (by decide +kernel)
theorem q_1123 : (Jvm.Cond.instanceMethod ({ cls := "ThinSeries$Plan", name := "isBarWidth", desc := "(I)Z" } : Jvm.MethodName)) ∈ tb := tb_at 1123 (by decide +kernel)
theorem q_1124 : (Jvm.Cond.selects "ThinSeries$Plan" ({ cls := "ThinSeries$Plan", name := "isBarWidth", desc := "(I)Z" } : Jvm.MethodName) ({ cls := "ThinSeries$Plan", name := "isBarWidth", desc := "(I)Z" } : Jvm.MethodName)) ∈ tb := tb_at 1124 (by decide +kernel)
theorem q_1125 : (Jvm.Cond.code ({ cls := "ThinSeries$Plan", name := "isBarWidth", desc := "(I)Z" } : Jvm.MethodName) prog_4_method_10_code (2 : Nat) (Option.some Jvm.ClassFile.FieldType.boolean)) ∈ tb := tb_at 1125 (by decide +kernel)
theorem q_1126 : (Jvm.Cond.constant "ThinSeries$Plan" (55 : Nat) (1000000 : Int32)) ∈ tb := tb_at 1126 (by decide +kernel)
theorem q_1128 : (Jvm.Cond.methodLink "ThinSeries" (304 : Nat) ({ cls := "ThinSeries$Series", name := "firstFrom", desc := "(I)I" } : Jvm.MethodName)) ∈ tb := tb_at 1128 (by decide +kernel)
theorem q_1129 : (Jvm.Cond.methodLink "ThinSeriesLaw" (160 : Nat) ({ cls := "ThinSeriesLaw", name := "alarms", desc := "(LThinSeries;II[J)I" } : Jvm.MethodName)) ∈ tb := tb_at 1129 (by decide +kernel)
theorem q_1130 : (Jvm.Cond.static ({ cls := "ThinSeriesLaw", name := "alarms", desc := "(LThinSeries;II[J)I" } : Jvm.MethodName)) ∈ tb := tb_at 1130 (by decide +kernel)
theorem q_1131 : (Jvm.Cond.codeWith ({ cls := "ThinSeriesLaw", name := "alarms", desc := "(LThinSeries;II[J)I" } : Jvm.MethodName) method_17_code (5 : Nat) (Option.some Jvm.ClassFile.FieldType.int) [((0 : Nat), (10 : Nat), (13 : Nat), (21 : Nat))]) ∈ tb := tb_at 1131 (by decide +kernel)
theorem q_1132 : (Jvm.Cond.methodLink "ThinSeriesLaw" (61 : Nat) ({ cls := "ThinSeries", name := "alarms", desc := "(II)I" } : Jvm.MethodName)) ∈ tb := tb_at 1132 (by decide +kernel)
theorem q_1133 : (Jvm.Cond.instanceMethod ({ cls := "ThinSeries", name := "alarms", desc := "(II)I" } : Jvm.MethodName)) ∈ tb := tb_at 1133 (by decide +kernel)
theorem q_1134 : (Jvm.Cond.selects "ThinSeries" ({ cls := "ThinSeries", name := "alarms", desc := "(II)I" } : Jvm.MethodName) ({ cls := "ThinSeries", name := "alarms", desc := "(II)I" } : Jvm.MethodName)) ∈ tb := tb_at 1134 (by decide +kernel)
theorem q_1135 : (Jvm.Cond.code ({ cls := "ThinSeries", name := "alarms", desc := "(II)I" } : Jvm.MethodName) prog_1_method_22_code (4 : Nat) (Option.some Jvm.ClassFile.FieldType.int)) ∈ tb := tb_at 1135 (by decide +kernel)
theorem q_1136 : (Jvm.Cond.methodLink "ThinSeries" (311 : Nat) ({ cls := "ThinSeries$Series", name := "surveyAlarms", desc := "([I)V" } : Jvm.MethodName)) ∈ tb := tb_at 1136 (by decide +kernel)
theorem q_1137 : (Jvm.Cond.instanceMethod ({ cls := "ThinSeries$Series", name := "surveyAlarms", desc := "([I)V" } : Jvm.MethodName)) ∈ tb := tb_at 1137 (by decide +kernel)
theorem q_1138 : (Jvm.Cond.selects "ThinSeries$Series" ({ cls := "ThinSeries$Series", name := "surveyAlarms", desc := "([I)V" } : Jvm.MethodName) ({ cls := "ThinSeries$Series", name := "surveyAlarms", desc := "([I)V" } : Jvm.MethodName)) ∈ tb := tb_at 1138 (by decide +kernel)
theorem q_1139 : (Jvm.Cond.code ({ cls := "ThinSeries$Series", name := "surveyAlarms", desc := "([I)V" } : Jvm.MethodName) prog_7_method_15_code (5 : Nat) (Option.none : Option Jvm.ClassFile.FieldType)) ∈ tb := tb_at 1139 (by decide +kernel)
theorem q_1140 : (Jvm.Cond.methodLink "ThinSeries$Series" (116 : Nat) ({ cls := "ThinSeries$Alarm", name := "isTold", desc := "()Z" } : Jvm.MethodName)) ∈ tb := tb_at 1140 (by decide +kernel)
theorem q_1141 : (Jvm.Cond.methodLink "ThinSeries$Series" (121 : Nat) ({ cls := "ThinSeries$Alarm", name := "isSoOf", desc := "(LThinSeries$Series;I)Z" } : Jvm.MethodName)) ∈ tb := tb_at 1141 (by decide +kernel)
theorem q_1142 : (Jvm.Cond.instanceMethod ({ cls := "ThinSeries$Alarm", name := "isSoOf", desc := "(LThinSeries$Series;I)Z" } : Jvm.MethodName)) ∈ tb := tb_at 1142 (by decide +kernel)
theorem q_1143 : (Jvm.Cond.selects "ThinSeries$Alarm" ({ cls := "ThinSeries$Alarm", name := "isSoOf", desc := "(LThinSeries$Series;I)Z" } : Jvm.MethodName) ({ cls := "ThinSeries$Alarm", name := "isSoOf", desc := "(LThinSeries$Series;I)Z" } : Jvm.MethodName)) ∈ tb := tb_at 1143 (by decide +kernel)
theorem q_1144 : (Jvm.Cond.code ({ cls := "ThinSeries$Alarm", name := "isSoOf", desc := "(LThinSeries$Series;I)Z" } : Jvm.MethodName) prog_2_method_7_code (7 : Nat) (Option.some Jvm.ClassFile.FieldType.boolean)) ∈ tb := tb_at 1144 (by decide +kernel)
theorem q_1145 : (Jvm.Cond.methodLink "ThinSeries$Alarm" (24 : Nat) ({ cls := "ThinSeries$Alarm", name := "compares", desc := "(ILThinSeries$Series;I)Z" } : Jvm.MethodName)) ∈ tb := tb_at 1145 (by decide +kernel)
theorem q_1147 : (Jvm.Cond.instanceMethod ({ cls := "ThinSeries$Alarm", name := "compares", desc := "(ILThinSeries$Series;I)Z" } : Jvm.MethodName)) ∈ tb := tb_at 1147 (by decide +kernel)
theorem q_1148 : (Jvm.Cond.code ({ cls := "ThinSeries$Alarm", name := "compares", desc := "(ILThinSeries$Series;I)Z" } : Jvm.MethodName) prog_2_method_8_code (7 : Nat) (Option.some Jvm.ClassFile.FieldType.boolean)) ∈ tb := tb_at 1148 (by decide +kernel)
theorem q_1149 : (Jvm.Cond.methodLink "ThinSeries$Alarm" (33 : Nat) ({ cls := "ThinSeries$Series", name := "tierOf", desc := "(I)I" } : Jvm.MethodName)) ∈ tb := tb_at 1149 (by decide +kernel)
theorem q_1150 : (Jvm.Cond.methodLink "ThinSeries$Alarm" (37 : Nat) ({ cls := "ThinSeries$Series", name := "fact", desc := "(II)J" } : Jvm.MethodName)) ∈ tb := tb_at 1150 (by decide +kernel)
theorem q_1151 : (Jvm.Cond.methodLink "ThinSeries$Series" (125 : Nat) ({ cls := "ThinSeries$Series", name := "isBesideTheOneAhead", desc := "(I)Z" } : Jvm.MethodName)) ∈ tb := tb_at 1151 (by decide +kernel)
theorem q_1153 : (Jvm.Cond.instanceMethod ({ cls := "ThinSeries$Series", name := "isBesideTheOneAhead", desc := "(I)Z" } : Jvm.MethodName)) ∈ tb := tb_at 1153 (by decide +kernel)
theorem q_1154 : (Jvm.Cond.code ({ cls := "ThinSeries$Series", name := "isBesideTheOneAhead", desc := "(I)Z" } : Jvm.MethodName) prog_7_method_17_code (2 : Nat) (Option.some Jvm.ClassFile.FieldType.boolean)) ∈ tb := tb_at 1154 (by decide +kernel)
theorem q_1155 : (Jvm.Cond.methodLink "ThinSeries$Series" (135 : Nat) ({ cls := "ThinSeries$Series", name := "spanAt", desc := "(I)I" } : Jvm.MethodName)) ∈ tb := tb_at 1155 (by decide +kernel)
theorem q_1156 : (Jvm.Cond.methodLink "ThinSeriesLaw" (163 : Nat) ({ cls := "ThinSeriesLaw", name := "would", desc := "(LThinSeries;III[J)I" } : Jvm.MethodName)) ∈ tb := tb_at 1156 (by decide +kernel)
theorem q_1157 : (Jvm.Cond.static ({ cls := "ThinSeriesLaw", name := "would", desc := "(LThinSeries;III[J)I" } : Jvm.MethodName)) ∈ tb := tb_at 1157 (by decide +kernel)
theorem q_1158 : (Jvm.Cond.codeWith ({ cls := "ThinSeriesLaw", name := "would", desc := "(LThinSeries;III[J)I" } : Jvm.MethodName) method_18_code (6 : Nat) (Option.some Jvm.ClassFile.FieldType.int) [((0 : Nat), (12 : Nat), (15 : Nat), (21 : Nat)), ((0 : Nat), (12 : Nat), (19 : Nat), (13 : Nat))]) ∈ tb := tb_at 1158 (by decide +kernel)
theorem q_1159 : (Jvm.Cond.methodLink "ThinSeriesLaw" (64 : Nat) ({ cls := "ThinSeries", name := "would", desc := "(III)I" } : Jvm.MethodName)) ∈ tb := tb_at 1159 (by decide +kernel)
theorem q_1160 : (Jvm.Cond.instanceMethod ({ cls := "ThinSeries", name := "would", desc := "(III)I" } : Jvm.MethodName)) ∈ tb := tb_at 1160 (by decide +kernel)
theorem q_1161 : (Jvm.Cond.selects "ThinSeries" ({ cls := "ThinSeries", name := "would", desc := "(III)I" } : Jvm.MethodName) ({ cls := "ThinSeries", name := "would", desc := "(III)I" } : Jvm.MethodName)) ∈ tb := tb_at 1161 (by decide +kernel)
theorem q_1162 : (Jvm.Cond.code ({ cls := "ThinSeries", name := "would", desc := "(III)I" } : Jvm.MethodName) prog_1_method_23_code (5 : Nat) (Option.some Jvm.ClassFile.FieldType.int)) ∈ tb := tb_at 1162 (by decide +kernel)
theorem q_1163 : (Jvm.Cond.methodLink "ThinSeries" (320 : Nat) ({ cls := "ThinSeries$Series", name := "foresee", desc := "(I[I)V" } : Jvm.MethodName)) ∈ tb := tb_at 1163 (by decide +kernel)
theorem q_1164 : (Jvm.Cond.instanceMethod ({ cls := "ThinSeries$Series", name := "foresee", desc := "(I[I)V" } : Jvm.MethodName)) ∈ tb := tb_at 1164 (by decide +kernel)
theorem q_1165 : (Jvm.Cond.selects "ThinSeries$Series" ({ cls := "ThinSeries$Series", name := "foresee", desc := "(I[I)V" } : Jvm.MethodName) ({ cls := "ThinSeries$Series", name := "foresee", desc := "(I[I)V" } : Jvm.MethodName)) ∈ tb := tb_at 1165 (by decide +kernel)
theorem q_1166 : (Jvm.Cond.code ({ cls := "ThinSeries$Series", name := "foresee", desc := "(I[I)V" } : Jvm.MethodName) prog_7_method_14_code (10 : Nat) (Option.none : Option Jvm.ClassFile.FieldType)) ∈ tb := tb_at 1166 (by decide +kernel)
theorem q_1167 : (Jvm.Cond.methodLink "ThinSeriesLaw" (166 : Nat) ({ cls := "ThinSeriesLaw", name := "until", desc := "(LThinSeries;III[J)I" } : Jvm.MethodName)) ∈ tb := tb_at 1167 (by decide +kernel)
theorem q_1168 : (Jvm.Cond.static ({ cls := "ThinSeriesLaw", name := "until", desc := "(LThinSeries;III[J)I" } : Jvm.MethodName)) ∈ tb := tb_at 1168 (by decide +kernel)
theorem q_1169 : (Jvm.Cond.codeWith ({ cls := "ThinSeriesLaw", name := "until", desc := "(LThinSeries;III[J)I" } : Jvm.MethodName) method_19_code (6 : Nat) (Option.some Jvm.ClassFile.FieldType.int) [((0 : Nat), (12 : Nat), (15 : Nat), (21 : Nat)), ((0 : Nat), (12 : Nat), (19 : Nat), (13 : Nat))]) ∈ tb := tb_at 1169 (by decide +kernel)
theorem q_1170 : (Jvm.Cond.methodLink "ThinSeriesLaw" (67 : Nat) ({ cls := "ThinSeries", name := "until", desc := "(III)I" } : Jvm.MethodName)) ∈ tb := tb_at 1170 (by decide +kernel)
theorem q_1171 : (Jvm.Cond.instanceMethod ({ cls := "ThinSeries", name := "until", desc := "(III)I" } : Jvm.MethodName)) ∈ tb := tb_at 1171 (by decide +kernel)
theorem q_1172 : (Jvm.Cond.selects "ThinSeries" ({ cls := "ThinSeries", name := "until", desc := "(III)I" } : Jvm.MethodName) ({ cls := "ThinSeries", name := "until", desc := "(III)I" } : Jvm.MethodName)) ∈ tb := tb_at 1172 (by decide +kernel)
theorem q_1173 : (Jvm.Cond.code ({ cls := "ThinSeries", name := "until", desc := "(III)I" } : Jvm.MethodName) prog_1_method_24_code (5 : Nat) (Option.some Jvm.ClassFile.FieldType.int)) ∈ tb := tb_at 1173 (by decide +kernel)
theorem q_1174 : (Jvm.Cond.methodLink "ThinSeries" (324 : Nat) ({ cls := "ThinSeries$Plan", name := "leastHeadPast", desc := "(II)I" } : Jvm.MethodName)) ∈ tb := tb_at 1174 (by decide +kernel)
theorem q_1175 : (Jvm.Cond.instanceMethod ({ cls := "ThinSeries$Plan", name := "leastHeadPast", desc := "(II)I" } : Jvm.MethodName)) ∈ tb := tb_at 1175 (by decide +kernel)
theorem q_1176 : (Jvm.Cond.selects "ThinSeries$Plan" ({ cls := "ThinSeries$Plan", name := "leastHeadPast", desc := "(II)I" } : Jvm.MethodName) ({ cls := "ThinSeries$Plan", name := "leastHeadPast", desc := "(II)I" } : Jvm.MethodName)) ∈ tb := tb_at 1176 (by decide +kernel)
theorem q_1177 : (Jvm.Cond.code ({ cls := "ThinSeries$Plan", name := "leastHeadPast", desc := "(II)I" } : Jvm.MethodName) prog_4_method_8_code (5 : Nat) (Option.some Jvm.ClassFile.FieldType.int)) ∈ tb := tb_at 1177 (by decide +kernel)
theorem q_1178 : (Jvm.Cond.methodLinkNest "ThinSeries$Plan" (52 : Nat) ({ cls := "ThinSeries", name := "multipleFrom", desc := "(II)I" } : Jvm.MethodName) "ThinSeries") ∈ nwL := nw_at 1178 (by decide +kernel)
theorem q_1179 : (Jvm.Cond.static ({ cls := "ThinSeries", name := "multipleFrom", desc := "(II)I" } : Jvm.MethodName)) ∈ tb := tb_at 1179 (by decide +kernel)
theorem q_1180 : (Jvm.Cond.code ({ cls := "ThinSeries", name := "multipleFrom", desc := "(II)I" } : Jvm.MethodName) prog_1_method_48_code (2 : Nat) (Option.some Jvm.ClassFile.FieldType.int)) ∈ tb := tb_at 1180 (by decide +kernel)
theorem q_1181 : (Jvm.Cond.constant "ThinSeries" (327 : Nat) (1000000 : Int32)) ∈ tb := tb_at 1181 (by decide +kernel)
theorem q_1182 : (Jvm.Cond.methodLink "ThinSeriesLaw" (169 : Nat) ({ cls := "ThinSeriesLaw", name := "trend", desc := "(LThinSeries;III[J)I" } : Jvm.MethodName)) ∈ tb := tb_at 1182 (by decide +kernel)
theorem q_1183 : (Jvm.Cond.static ({ cls := "ThinSeriesLaw", name := "trend", desc := "(LThinSeries;III[J)I" } : Jvm.MethodName)) ∈ tb := tb_at 1183 (by decide +kernel)
theorem q_1184 : (Jvm.Cond.codeWith ({ cls := "ThinSeriesLaw", name := "trend", desc := "(LThinSeries;III[J)I" } : Jvm.MethodName) method_20_code (6 : Nat) (Option.some Jvm.ClassFile.FieldType.int) [((0 : Nat), (11 : Nat), (14 : Nat), (21 : Nat))]) ∈ tb := tb_at 1184 (by decide +kernel)
theorem q_1185 : (Jvm.Cond.methodLink "ThinSeriesLaw" (70 : Nat) ({ cls := "ThinSeries", name := "trend", desc := "(III)J" } : Jvm.MethodName)) ∈ tb := tb_at 1185 (by decide +kernel)
theorem q_1186 : (Jvm.Cond.instanceMethod ({ cls := "ThinSeries", name := "trend", desc := "(III)J" } : Jvm.MethodName)) ∈ tb := tb_at 1186 (by decide +kernel)
theorem q_1187 : (Jvm.Cond.selects "ThinSeries" ({ cls := "ThinSeries", name := "trend", desc := "(III)J" } : Jvm.MethodName) ({ cls := "ThinSeries", name := "trend", desc := "(III)J" } : Jvm.MethodName)) ∈ tb := tb_at 1187 (by decide +kernel)
theorem q_1188 : (Jvm.Cond.code ({ cls := "ThinSeries", name := "trend", desc := "(III)J" } : Jvm.MethodName) prog_1_method_25_code (5 : Nat) (Option.some Jvm.ClassFile.FieldType.long)) ∈ tb := tb_at 1188 (by decide +kernel)
theorem q_1189 : (Jvm.Cond.methodLink "ThinSeries" (328 : Nat) ({ cls := "ThinSeries$Series", name := "surveyTrend", desc := "(I[I)V" } : Jvm.MethodName)) ∈ tb := tb_at 1189 (by decide +kernel)
theorem q_1190 : (Jvm.Cond.instanceMethod ({ cls := "ThinSeries$Series", name := "surveyTrend", desc := "(I[I)V" } : Jvm.MethodName)) ∈ tb := tb_at 1190 (by decide +kernel)
theorem q_1191 : (Jvm.Cond.selects "ThinSeries$Series" ({ cls := "ThinSeries$Series", name := "surveyTrend", desc := "(I[I)V" } : Jvm.MethodName) ({ cls := "ThinSeries$Series", name := "surveyTrend", desc := "(I[I)V" } : Jvm.MethodName)) ∈ tb := tb_at 1191 (by decide +kernel)
theorem q_1192 : (Jvm.Cond.code ({ cls := "ThinSeries$Series", name := "surveyTrend", desc := "(I[I)V" } : Jvm.MethodName) prog_7_method_16_code (6 : Nat) (Option.none : Option Jvm.ClassFile.FieldType)) ∈ tb := tb_at 1192 (by decide +kernel)
theorem q_1193 : (Jvm.Cond.methodLink "ThinSeries$Series" (129 : Nat) ({ cls := "ThinSeries$Series", name := "endOf", desc := "(I)I" } : Jvm.MethodName)) ∈ tb := tb_at 1193 (by decide +kernel)
theorem q_1194 : (Jvm.Cond.methodLink "ThinSeries$Series" (132 : Nat) ({ cls := "ThinSeries$Series", name := "beginOf", desc := "(I)I" } : Jvm.MethodName)) ∈ tb := tb_at 1194 (by decide +kernel)
theorem q_1195 : (Jvm.Cond.methodLink "ThinSeriesLaw" (172 : Nat) ({ cls := "ThinSeriesLaw", name := "both", desc := "(LThinSeries;III[J)I" } : Jvm.MethodName)) ∈ tb := tb_at 1195 (by decide +kernel)
theorem q_1196 : (Jvm.Cond.static ({ cls := "ThinSeriesLaw", name := "both", desc := "(LThinSeries;III[J)I" } : Jvm.MethodName)) ∈ tb := tb_at 1196 (by decide +kernel)
theorem q_1197 : (Jvm.Cond.codeWith ({ cls := "ThinSeriesLaw", name := "both", desc := "(LThinSeries;III[J)I" } : Jvm.MethodName) method_21_code (6 : Nat) (Option.some Jvm.ClassFile.FieldType.int) [((0 : Nat), (12 : Nat), (15 : Nat), (21 : Nat))]) ∈ tb := tb_at 1197 (by decide +kernel)
theorem q_1198 : (Jvm.Cond.methodLink "ThinSeriesLaw" (74 : Nat) ({ cls := "ThinSeries", name := "both", desc := "(III)I" } : Jvm.MethodName)) ∈ tb := tb_at 1198 (by decide +kernel)
theorem q_1199 : (Jvm.Cond.instanceMethod ({ cls := "ThinSeries", name := "both", desc := "(III)I" } : Jvm.MethodName)) ∈ tb := tb_at 1199 (by decide +kernel)
theorem q_1200 : (Jvm.Cond.selects "ThinSeries" ({ cls := "ThinSeries", name := "both", desc := "(III)I" } : Jvm.MethodName) ({ cls := "ThinSeries", name := "both", desc := "(III)I" } : Jvm.MethodName)) ∈ tb := tb_at 1200 (by decide +kernel)
theorem q_1201 : (Jvm.Cond.code ({ cls := "ThinSeries", name := "both", desc := "(III)I" } : Jvm.MethodName) prog_1_method_26_code (6 : Nat) (Option.some Jvm.ClassFile.FieldType.int)) ∈ tb := tb_at 1201 (by decide +kernel)
theorem q_1202 : (Jvm.Cond.methodLink "ThinSeries" (331 : Nat) ({ cls := "ThinSeries", name := "surveyBoth", desc := "(LThinSeries$Series;LThinSeries$Series;)V" } : Jvm.MethodName)) ∈ tb := tb_at 1202 (by decide +kernel)
theorem q_1204 : (Jvm.Cond.instanceMethod ({ cls := "ThinSeries", name := "surveyBoth", desc := "(LThinSeries$Series;LThinSeries$Series;)V" } : Jvm.MethodName)) ∈ tb := tb_at 1204 (by decide +kernel)
theorem q_1205 : (Jvm.Cond.code ({ cls := "ThinSeries", name := "surveyBoth", desc := "(LThinSeries$Series;LThinSeries$Series;)V" } : Jvm.MethodName) prog_1_method_45_code (7 : Nat) (Option.none : Option Jvm.ClassFile.FieldType)) ∈ tb := tb_at 1205 (by decide +kernel)
theorem q_1206 : (Jvm.Cond.methodLink "ThinSeries" (385 : Nat) ({ cls := "ThinSeries$Series", name := "hasStart", desc := "(II)Z" } : Jvm.MethodName)) ∈ tb := tb_at 1206 (by decide +kernel)
theorem q_1207 : (Jvm.Cond.methodLink "ThinSeries" (389 : Nat) ({ cls := "ThinSeries$Series", name := "mean", desc := "(I)I" } : Jvm.MethodName)) ∈ tb := tb_at 1207 (by decide +kernel)
theorem q_1208 : (Jvm.Cond.methodLink "ThinSeries" (392 : Nat) ({ cls := "java/lang/Math", name := "abs", desc := "(I)I" } : Jvm.MethodName)) ∈ tb := tb_at 1208 (by decide +kernel)
theorem q_1209 : (Jvm.Cond.static ({ cls := "java/lang/Math", name := "abs", desc := "(I)I" } : Jvm.MethodName)) ∈ tb := tb_at 1209 (by decide +kernel)
theorem q_1210 : (Jvm.Cond.code ({ cls := "java/lang/Math", name := "abs", desc := "(I)I" } : Jvm.MethodName) prog_19_method_59_code (1 : Nat) (Option.some Jvm.ClassFile.FieldType.int)) ∈ tb := tb_at 1210 (by decide +kernel)
theorem q_1211 : (Jvm.Cond.classLink "ThinSeriesLaw" (78 : Nat) "ThinSeriesModel") ∈ tb := tb_at 1211 (by decide +kernel)
theorem q_1212 : (Jvm.Cond.instantiable "ThinSeriesModel" (69 : Nat)) ∈ tb := tb_at 1212 (by decide +kernel)
theorem q_1213 : (Jvm.Cond.methodLink "ThinSeriesLaw" (80 : Nat) ({ cls := "ThinSeriesModel", name := "<init>", desc := "()V" } : Jvm.MethodName)) ∈ tb := tb_at 1213 (by decide +kernel)
theorem q_1214 : (Jvm.Cond.instanceMethod ({ cls := "ThinSeriesModel", name := "<init>", desc := "()V" } : Jvm.MethodName)) ∈ tb := tb_at 1214 (by decide +kernel)
theorem q_1215 : (Jvm.Cond.code ({ cls := "ThinSeriesModel", name := "<init>", desc := "()V" } : Jvm.MethodName) prog_11_method_1_code (1 : Nat) (Option.none : Option Jvm.ClassFile.FieldType)) ∈ tb := tb_at 1215 (by decide +kernel)
theorem q_1216 : (Jvm.Cond.methodLink "ThinSeriesModel" (1 : Nat) ({ cls := "java/lang/Object", name := "<init>", desc := "()V" } : Jvm.MethodName)) ∈ tb := tb_at 1216 (by decide +kernel)
theorem q_1217 : (Jvm.Cond.classLink "ThinSeriesModel" (7 : Nat) "java/lang/String") ∈ tb := tb_at 1217 (by decide +kernel)
theorem q_1218 : (Jvm.Cond.arrayOver (Jvm.ClassFile.FieldType.object "java/lang/String")) ∈ nwL := nw_at 1218 (by decide +kernel)
theorem q_1230 : (Jvm.Cond.methodLink "ThinSeriesModel" (123 : Nat) ({ cls := "ThinSeriesModel", name := "usual", desc := "([I[I)V" } : Jvm.MethodName)) ∈ tb := tb_at 1230 (by decide +kernel)
theorem q_1231 : (Jvm.Cond.static ({ cls := "ThinSeriesModel", name := "usual", desc := "([I[I)V" } : Jvm.MethodName)) ∈ tb := tb_at 1231 (by decide +kernel)
theorem q_1232 : (Jvm.Cond.code ({ cls := "ThinSeriesModel", name := "usual", desc := "([I[I)V" } : Jvm.MethodName) prog_11_method_2_code (2 : Nat) (Option.none : Option Jvm.ClassFile.FieldType)) ∈ tb := tb_at 1232 (by decide +kernel)
theorem q_1233 : (Jvm.Cond.fieldLink "ThinSeriesModel" (21 : Nat) "ThinSeriesModel" "fields" "[Ljava/lang/String;") ∈ tb := tb_at 1233 (by decide +kernel)
theorem q_1234 : (Jvm.Cond.fieldLink "ThinSeriesModel" (31 : Nat) "ThinSeriesModel" "clauses" "[Ljava/lang/String;") ∈ tb := tb_at 1234 (by decide +kernel)
theorem q_1235 : (Jvm.Cond.fieldLink "ThinSeriesModel" (40 : Nat) "ThinSeriesModel" "lines" "[Ljava/lang/String;") ∈ tb := tb_at 1235 (by decide +kernel)
theorem q_1236 : (Jvm.Cond.fieldLink "ThinSeriesModel" (130 : Nat) "ThinSeriesModel" "code" "I") ∈ tb := tb_at 1236 (by decide +kernel)
theorem q_1237 : (Jvm.Cond.fieldLink "ThinSeriesModel" (43 : Nat) "ThinSeriesModel" "span" "[I") ∈ tb := tb_at 1237 (by decide +kernel)
theorem q_1238 : (Jvm.Cond.fieldLink "ThinSeriesModel" (47 : Nat) "ThinSeriesModel" "keep" "[I") ∈ tb := tb_at 1238 (by decide +kernel)
theorem q_1239 : (Jvm.Cond.fieldLink "ThinSeriesModel" (50 : Nat) "ThinSeriesModel" "test" "[I") ∈ tb := tb_at 1239 (by decide +kernel)
theorem q_1240 : (Jvm.Cond.fieldLink "ThinSeriesModel" (127 : Nat) "ThinSeriesModel" "tiers" "I") ∈ tb := tb_at 1240 (by decide +kernel)
theorem q_1241 : (Jvm.Cond.fieldLink "ThinSeriesModel" (53 : Nat) "ThinSeriesModel" "most" "I") ∈ tb := tb_at 1241 (by decide +kernel)
theorem q_1242 : (Jvm.Cond.fieldLink "ThinSeriesModel" (275 : Nat) "ThinSeriesModel" "tests" "I") ∈ tb := tb_at 1242 (by decide +kernel)
theorem q_1243 : (Jvm.Cond.fieldLink "ThinSeriesModel" (56 : Nat) "ThinSeriesModel" "isThere" "[Z") ∈ tb := tb_at 1243 (by decide +kernel)
theorem q_1244 : (Jvm.Cond.fieldLink "ThinSeriesModel" (60 : Nat) "ThinSeriesModel" "head" "[I") ∈ tb := tb_at 1244 (by decide +kernel)
theorem q_1245 : (Jvm.Cond.fieldLink "ThinSeriesModel" (63 : Nat) "ThinSeriesModel" "late" "[I") ∈ tb := tb_at 1245 (by decide +kernel)
theorem q_1246 : (Jvm.Cond.fieldLink "ThinSeriesModel" (66 : Nat) "ThinSeriesModel" "lost" "[I") ∈ tb := tb_at 1246 (by decide +kernel)
theorem q_1247 : (Jvm.Cond.fieldLink "ThinSeriesModel" (69 : Nat) "ThinSeriesModel" "usedAt" "[I") ∈ tb := tb_at 1247 (by decide +kernel)
theorem q_1248 : (Jvm.Cond.fieldLink "ThinSeriesModel" (330 : Nat) "ThinSeriesModel" "uses" "I") ∈ tb := tb_at 1248 (by decide +kernel)
theorem q_1249 : (Jvm.Cond.fieldLink "ThinSeriesModel" (318 : Nat) "ThinSeriesModel" "wentForOthers" "I") ∈ tb := tb_at 1249 (by decide +kernel)
theorem q_1250 : (Jvm.Cond.fieldLink "ThinSeriesModel" (377 : Nat) "ThinSeriesModel" "lateEver" "I") ∈ tb := tb_at 1250 (by decide +kernel)
theorem q_1251 : (Jvm.Cond.fieldLink "ThinSeriesModel" (327 : Nat) "ThinSeriesModel" "lostEver" "I") ∈ tb := tb_at 1251 (by decide +kernel)
theorem q_1252 : (Jvm.Cond.fieldLink "ThinSeriesModel" (72 : Nat) "ThinSeriesModel" "pointOf" "[I") ∈ tb := tb_at 1252 (by decide +kernel)
theorem q_1253 : (Jvm.Cond.fieldLink "ThinSeriesModel" (75 : Nat) "ThinSeriesModel" "pointTime" "[I") ∈ tb := tb_at 1253 (by decide +kernel)
theorem q_1254 : (Jvm.Cond.fieldLink "ThinSeriesModel" (78 : Nat) "ThinSeriesModel" "pointValue" "[I") ∈ tb := tb_at 1254 (by decide +kernel)
theorem q_1255 : (Jvm.Cond.fieldLink "ThinSeriesModel" (278 : Nat) "ThinSeriesModel" "points" "I") ∈ tb := tb_at 1255 (by decide +kernel)
theorem q_1256 : (Jvm.Cond.fieldLink "ThinSeriesModel" (81 : Nat) "ThinSeriesModel" "tape" "[I") ∈ tb := tb_at 1256 (by decide +kernel)
theorem q_1257 : (Jvm.Cond.fieldLink "ThinSeriesModel" (137 : Nat) "ThinSeriesModel" "taped" "I") ∈ tb := tb_at 1257 (by decide +kernel)
theorem q_1258 : (Jvm.Cond.fieldLink "ThinSeriesModel" (143 : Nat) "ThinSeriesModel" "at" "I") ∈ tb := tb_at 1258 (by decide +kernel)
theorem q_1259 : (Jvm.Cond.fieldLink "ThinSeriesModel" (140 : Nat) "ThinSeriesModel" "size" "I") ∈ tb := tb_at 1259 (by decide +kernel)
theorem q_1260 : (Jvm.Cond.fieldLink "ThinSeriesModel" (153 : Nat) "ThinSeriesModel" "token" "I") ∈ tb := tb_at 1260 (by decide +kernel)
theorem q_1261 : (Jvm.Cond.fieldLink "ThinSeriesModel" (163 : Nat) "ThinSeriesModel" "number" "I") ∈ tb := tb_at 1261 (by decide +kernel)
theorem q_1262 : (Jvm.Cond.fieldLink "ThinSeriesModel" (150 : Nat) "ThinSeriesModel" "begins" "I") ∈ tb := tb_at 1262 (by decide +kernel)
theorem q_1263 : (Jvm.Cond.fieldLink "ThinSeriesModel" (176 : Nat) "ThinSeriesModel" "stops" "I") ∈ tb := tb_at 1263 (by decide +kernel)
theorem q_1264 : (Jvm.Cond.fieldLink "ThinSeriesModel" (179 : Nat) "ThinSeriesModel" "bad" "I") ∈ tb := tb_at 1264 (by decide +kernel)
theorem q_1265 : (Jvm.Cond.fieldLink "ThinSeriesModel" (182 : Nat) "ThinSeriesModel" "badPlace" "I") ∈ tb := tb_at 1265 (by decide +kernel)
theorem q_1266 : (Jvm.Cond.fieldLink "ThinSeriesModel" (84 : Nat) "ThinSeriesModel" "faultPlace" "I") ∈ tb := tb_at 1266 (by decide +kernel)
theorem q_1267 : (Jvm.Cond.fieldLink "ThinSeriesModel" (87 : Nat) "ThinSeriesModel" "newSpan" "[I") ∈ tb := tb_at 1267 (by decide +kernel)
theorem q_1268 : (Jvm.Cond.fieldLink "ThinSeriesModel" (90 : Nat) "ThinSeriesModel" "newKeep" "[I") ∈ tb := tb_at 1268 (by decide +kernel)
theorem q_1269 : (Jvm.Cond.fieldLink "ThinSeriesModel" (93 : Nat) "ThinSeriesModel" "newTest" "[I") ∈ tb := tb_at 1269 (by decide +kernel)
theorem q_1270 : (Jvm.Cond.fieldLink "ThinSeriesModel" (251 : Nat) "ThinSeriesModel" "newTiers" "I") ∈ tb := tb_at 1270 (by decide +kernel)
theorem q_1271 : (Jvm.Cond.fieldLink "ThinSeriesModel" (260 : Nat) "ThinSeriesModel" "newMost" "I") ∈ tb := tb_at 1271 (by decide +kernel)
theorem q_1272 : (Jvm.Cond.fieldLink "ThinSeriesModel" (218 : Nat) "ThinSeriesModel" "newTests" "I") ∈ tb := tb_at 1272 (by decide +kernel)
theorem q_1273 : (Jvm.Cond.fieldLink "ThinSeriesModel" (351 : Nat) "ThinSeriesModel" "reason" "I") ∈ tb := tb_at 1273 (by decide +kernel)
theorem q_1274 : (Jvm.Cond.fieldLink "ThinSeriesModel" (354 : Nat) "ThinSeriesModel" "cause" "I") ∈ tb := tb_at 1274 (by decide +kernel)
theorem q_1275 : (Jvm.Cond.fieldLink "ThinSeriesModel" (96 : Nat) "ThinSeriesModel" "amount" "I") ∈ tb := tb_at 1275 (by decide +kernel)
theorem q_1276 : (Jvm.Cond.fieldLink "ThinSeriesModel" (99 : Nat) "ThinSeriesModel" "lineWrong" "I") ∈ tb := tb_at 1276 (by decide +kernel)
theorem q_1277 : (Jvm.Cond.fieldLink "ThinSeriesModel" (102 : Nat) "ThinSeriesModel" "batch" "[I") ∈ tb := tb_at 1277 (by decide +kernel)
theorem q_1278 : (Jvm.Cond.fieldLink "ThinSeriesModel" (396 : Nat) "ThinSeriesModel" "batched" "I") ∈ tb := tb_at 1278 (by decide +kernel)
theorem q_1279 : (Jvm.Cond.fieldLink "ThinSeriesModel" (105 : Nat) "ThinSeriesModel" "asideOf" "[I") ∈ tb := tb_at 1279 (by decide +kernel)
theorem q_1280 : (Jvm.Cond.fieldLink "ThinSeriesModel" (108 : Nat) "ThinSeriesModel" "asideTime" "[I") ∈ tb := tb_at 1280 (by decide +kernel)
theorem q_1281 : (Jvm.Cond.fieldLink "ThinSeriesModel" (111 : Nat) "ThinSeriesModel" "asideValue" "[I") ∈ tb := tb_at 1281 (by decide +kernel)
theorem q_1282 : (Jvm.Cond.fieldLink "ThinSeriesModel" (114 : Nat) "ThinSeriesModel" "asideThere" "[Z") ∈ tb := tb_at 1282 (by decide +kernel)
theorem q_1283 : (Jvm.Cond.fieldLink "ThinSeriesModel" (117 : Nat) "ThinSeriesModel" "aside" "[I") ∈ tb := tb_at 1283 (by decide +kernel)
theorem q_1284 : (Jvm.Cond.fieldLink "ThinSeriesModel" (416 : Nat) "ThinSeriesModel" "tier" "I") ∈ tb := tb_at 1284 (by decide +kernel)
theorem q_1285 : (Jvm.Cond.fieldLink "ThinSeriesModel" (418 : Nat) "ThinSeriesModel" "start" "I") ∈ tb := tb_at 1285 (by decide +kernel)
theorem q_1286 : (Jvm.Cond.fieldLink "ThinSeriesModel" (421 : Nat) "ThinSeriesModel" "count" "I") ∈ tb := tb_at 1286 (by decide +kernel)
theorem q_1287 : (Jvm.Cond.fieldLink "ThinSeriesModel" (426 : Nat) "ThinSeriesModel" "least" "I") ∈ tb := tb_at 1287 (by decide +kernel)
theorem q_1288 : (Jvm.Cond.fieldLink "ThinSeriesModel" (428 : Nat) "ThinSeriesModel" "greatest" "I") ∈ tb := tb_at 1288 (by decide +kernel)
theorem q_1289 : (Jvm.Cond.fieldLink "ThinSeriesModel" (423 : Nat) "ThinSeriesModel" "sum" "J") ∈ tb := tb_at 1289 (by decide +kernel)
theorem q_1290 : (Jvm.Cond.fieldLink "ThinSeriesModel" (463 : Nat) "ThinSeriesModel" "sumAll" "J") ∈ tb := tb_at 1290 (by decide +kernel)
theorem q_1291 : (Jvm.Cond.fieldLink "ThinSeriesModel" (466 : Nat) "ThinSeriesModel" "countAll" "I") ∈ tb := tb_at 1291 (by decide +kernel)
theorem q_1292 : (Jvm.Cond.fieldLink "ThinSeriesModel" (469 : Nat) "ThinSeriesModel" "leastAll" "I") ∈ tb := tb_at 1292 (by decide +kernel)
theorem q_1293 : (Jvm.Cond.fieldLink "ThinSeriesModel" (472 : Nat) "ThinSeriesModel" "greatestAll" "I") ∈ tb := tb_at 1293 (by decide +kernel)
theorem q_1294 : (Jvm.Cond.fieldLink "ThinSeriesModel" (475 : Nat) "ThinSeriesModel" "bucketsAll" "I") ∈ tb := tb_at 1294 (by decide +kernel)
theorem q_1295 : (Jvm.Cond.fieldLink "ThinSeriesModel" (481 : Nat) "ThinSeriesModel" "partlyCount" "I") ∈ tb := tb_at 1295 (by decide +kernel)
theorem q_1296 : (Jvm.Cond.fieldLink "ThinSeriesModel" (484 : Nat) "ThinSeriesModel" "partly" "I") ∈ tb := tb_at 1296 (by decide +kernel)
theorem q_1297 : (Jvm.Cond.fieldLink "ThinSeriesModel" (120 : Nat) "ThinSeriesModel" "holds" "[Z") ∈ tb := tb_at 1297 (by decide +kernel)
theorem q_1298 : (Jvm.Cond.fieldLink "ThinSeriesModel" (501 : Nat) "ThinSeriesModel" "alarmed" "I") ∈ tb := tb_at 1298 (by decide +kernel)
theorem q_1299 : (Jvm.Cond.fieldLink "ThinSeriesModel" (504 : Nat) "ThinSeriesModel" "firstAlarm" "I") ∈ tb := tb_at 1299 (by decide +kernel)
theorem q_1300 : (Jvm.Cond.fieldLink "ThinSeriesModel" (507 : Nat) "ThinSeriesModel" "longest" "I") ∈ tb := tb_at 1300 (by decide +kernel)
theorem q_1301 : (Jvm.Cond.fieldLink "ThinSeriesModel" (510 : Nat) "ThinSeriesModel" "longestFrom" "I") ∈ tb := tb_at 1301 (by decide +kernel)
theorem q_1441 : (Jvm.Cond.arrayClass Jvm.ClassFile.FieldType.boolean) ∈ tb := tb_at 1441 (by decide +kernel)
theorem q_1442 : (Jvm.Cond.methodLink "ThinSeriesLaw" (92 : Nat) ({ cls := "ThinSeriesModel", name := "thrown", desc := "()I" } : Jvm.MethodName)) ∈ tb := tb_at 1442 (by decide +kernel)
theorem q_1443 : (Jvm.Cond.instanceMethod ({ cls := "ThinSeriesModel", name := "thrown", desc := "()I" } : Jvm.MethodName)) ∈ tb := tb_at 1443 (by decide +kernel)
theorem q_1444 : (Jvm.Cond.selects "ThinSeriesModel" ({ cls := "ThinSeriesModel", name := "thrown", desc := "()I" } : Jvm.MethodName) ({ cls := "ThinSeriesModel", name := "thrown", desc := "()I" } : Jvm.MethodName)) ∈ tb := tb_at 1444 (by decide +kernel)
theorem q_1445 : (Jvm.Cond.code ({ cls := "ThinSeriesModel", name := "thrown", desc := "()I" } : Jvm.MethodName) prog_11_method_3_code (1 : Nat) (Option.some Jvm.ClassFile.FieldType.int)) ∈ tb := tb_at 1445 (by decide +kernel)
theorem q_1446 : (Jvm.Cond.methodLink "ThinSeriesLaw" (85 : Nat) ({ cls := "ThinSeriesModel", name := "feed", desc := "(IIIII)I" } : Jvm.MethodName)) ∈ tb := tb_at 1446 (by decide +kernel)
theorem q_1447 : (Jvm.Cond.instanceMethod ({ cls := "ThinSeriesModel", name := "feed", desc := "(IIIII)I" } : Jvm.MethodName)) ∈ tb := tb_at 1447 (by decide +kernel)
theorem q_1448 : (Jvm.Cond.selects "ThinSeriesModel" ({ cls := "ThinSeriesModel", name := "feed", desc := "(IIIII)I" } : Jvm.MethodName) ({ cls := "ThinSeriesModel", name := "feed", desc := "(IIIII)I" } : Jvm.MethodName)) ∈ tb := tb_at 1448 (by decide +kernel)
theorem q_1449 : (Jvm.Cond.code ({ cls := "ThinSeriesModel", name := "feed", desc := "(IIIII)I" } : Jvm.MethodName) prog_11_method_8_code (8 : Nat) (Option.some Jvm.ClassFile.FieldType.int)) ∈ tb := tb_at 1449 (by decide +kernel)
theorem q_1450 : (Jvm.Cond.methodLink "ThinSeriesLaw" (91 : Nat) ({ cls := "ThinSeriesModel", name := "tell", desc := "(I)I" } : Jvm.MethodName)) ∈ tb := tb_at 1450 (by decide +kernel)
theorem q_1451 : (Jvm.Cond.instanceMethod ({ cls := "ThinSeriesModel", name := "tell", desc := "(I)I" } : Jvm.MethodName)) ∈ tb := tb_at 1451 (by decide +kernel)
theorem q_1452 : (Jvm.Cond.selects "ThinSeriesModel" ({ cls := "ThinSeriesModel", name := "tell", desc := "(I)I" } : Jvm.MethodName) ({ cls := "ThinSeriesModel", name := "tell", desc := "(I)I" } : Jvm.MethodName)) ∈ tb := tb_at 1452 (by decide +kernel)
theorem q_1453 : (Jvm.Cond.code ({ cls := "ThinSeriesModel", name := "tell", desc := "(I)I" } : Jvm.MethodName) prog_11_method_31_code (3 : Nat) (Option.some Jvm.ClassFile.FieldType.int)) ∈ tb := tb_at 1453 (by decide +kernel)
theorem q_1454 : (Jvm.Cond.methodLink "ThinSeriesModel" (263 : Nat) ({ cls := "ThinSeriesModel", name := "fail", desc := "(I)I" } : Jvm.MethodName)) ∈ tb := tb_at 1454 (by decide +kernel)
theorem q_1456 : (Jvm.Cond.instanceMethod ({ cls := "ThinSeriesModel", name := "fail", desc := "(I)I" } : Jvm.MethodName)) ∈ tb := tb_at 1456 (by decide +kernel)
theorem q_1457 : (Jvm.Cond.code ({ cls := "ThinSeriesModel", name := "fail", desc := "(I)I" } : Jvm.MethodName) prog_11_method_4_code (2 : Nat) (Option.some Jvm.ClassFile.FieldType.int)) ∈ tb := tb_at 1457 (by decide +kernel)
theorem q_1458 : (Jvm.Cond.methodLink "ThinSeriesModel" (266 : Nat) ({ cls := "ThinSeriesModel", name := "begin", desc := "(I)V" } : Jvm.MethodName)) ∈ tb := tb_at 1458 (by decide +kernel)
theorem q_1460 : (Jvm.Cond.instanceMethod ({ cls := "ThinSeriesModel", name := "begin", desc := "(I)V" } : Jvm.MethodName)) ∈ tb := tb_at 1460 (by decide +kernel)
theorem q_1461 : (Jvm.Cond.code ({ cls := "ThinSeriesModel", name := "begin", desc := "(I)V" } : Jvm.MethodName) prog_11_method_23_code (2 : Nat) (Option.none : Option Jvm.ClassFile.FieldType)) ∈ tb := tb_at 1461 (by decide +kernel)
theorem q_1462 : (Jvm.Cond.methodLink "ThinSeriesModel" (197 : Nat) ({ cls := "ThinSeriesModel", name := "stepOn", desc := "()V" } : Jvm.MethodName)) ∈ tb := tb_at 1462 (by decide +kernel)
theorem q_1464 : (Jvm.Cond.instanceMethod ({ cls := "ThinSeriesModel", name := "stepOn", desc := "()V" } : Jvm.MethodName)) ∈ tb := tb_at 1464 (by decide +kernel)
theorem q_1465 : (Jvm.Cond.code ({ cls := "ThinSeriesModel", name := "stepOn", desc := "()V" } : Jvm.MethodName) prog_11_method_13_code (2 : Nat) (Option.none : Option Jvm.ClassFile.FieldType)) ∈ tb := tb_at 1465 (by decide +kernel)
theorem q_1466 : (Jvm.Cond.methodLink "ThinSeriesModel" (146 : Nat) ({ cls := "ThinSeriesModel", name := "byteAt", desc := "(I)I" } : Jvm.MethodName)) ∈ tb := tb_at 1466 (by decide +kernel)
theorem q_1468 : (Jvm.Cond.instanceMethod ({ cls := "ThinSeriesModel", name := "byteAt", desc := "(I)I" } : Jvm.MethodName)) ∈ tb := tb_at 1468 (by decide +kernel)
theorem q_1469 : (Jvm.Cond.code ({ cls := "ThinSeriesModel", name := "byteAt", desc := "(I)I" } : Jvm.MethodName) prog_11_method_9_code (2 : Nat) (Option.some Jvm.ClassFile.FieldType.int)) ∈ tb := tb_at 1469 (by decide +kernel)
theorem q_1470 : (Jvm.Cond.methodLink "ThinSeriesModel" (156 : Nat) ({ cls := "ThinSeriesModel", name := "isLetter", desc := "(I)Z" } : Jvm.MethodName)) ∈ tb := tb_at 1470 (by decide +kernel)
theorem q_1471 : (Jvm.Cond.static ({ cls := "ThinSeriesModel", name := "isLetter", desc := "(I)Z" } : Jvm.MethodName)) ∈ tb := tb_at 1471 (by decide +kernel)
theorem q_1472 : (Jvm.Cond.code ({ cls := "ThinSeriesModel", name := "isLetter", desc := "(I)Z" } : Jvm.MethodName) prog_11_method_10_code (1 : Nat) (Option.some Jvm.ClassFile.FieldType.boolean)) ∈ tb := tb_at 1472 (by decide +kernel)
theorem q_1473 : (Jvm.Cond.methodLink "ThinSeriesModel" (160 : Nat) ({ cls := "ThinSeriesModel", name := "isDigit", desc := "(I)Z" } : Jvm.MethodName)) ∈ tb := tb_at 1473 (by decide +kernel)
theorem q_1474 : (Jvm.Cond.static ({ cls := "ThinSeriesModel", name := "isDigit", desc := "(I)Z" } : Jvm.MethodName)) ∈ tb := tb_at 1474 (by decide +kernel)
theorem q_1475 : (Jvm.Cond.code ({ cls := "ThinSeriesModel", name := "isDigit", desc := "(I)Z" } : Jvm.MethodName) prog_11_method_11_code (1 : Nat) (Option.some Jvm.ClassFile.FieldType.boolean)) ∈ tb := tb_at 1475 (by decide +kernel)
theorem q_1476 : (Jvm.Cond.constant "ThinSeriesModel" (166 : Nat) (100000000 : Int32)) ∈ tb := tb_at 1476 (by decide +kernel)
theorem q_1477 : (Jvm.Cond.methodLink "ThinSeriesModel" (167 : Nat) ({ cls := "java/lang/Math", name := "min", desc := "(II)I" } : Jvm.MethodName)) ∈ tb := tb_at 1477 (by decide +kernel)
theorem q_1478 : (Jvm.Cond.methodLink "ThinSeriesModel" (173 : Nat) ({ cls := "ThinSeriesModel", name := "isMark", desc := "(I)Z" } : Jvm.MethodName)) ∈ tb := tb_at 1478 (by decide +kernel)
theorem q_1479 : (Jvm.Cond.static ({ cls := "ThinSeriesModel", name := "isMark", desc := "(I)Z" } : Jvm.MethodName)) ∈ tb := tb_at 1479 (by decide +kernel)
theorem q_1480 : (Jvm.Cond.code ({ cls := "ThinSeriesModel", name := "isMark", desc := "(I)Z" } : Jvm.MethodName) prog_11_method_12_code (1 : Nat) (Option.some Jvm.ClassFile.FieldType.boolean)) ∈ tb := tb_at 1480 (by decide +kernel)
theorem q_1481 : (Jvm.Cond.methodLink "ThinSeriesModel" (269 : Nat) ({ cls := "ThinSeriesModel", name := "readClause", desc := "()V" } : Jvm.MethodName)) ∈ tb := tb_at 1481 (by decide +kernel)
theorem q_1483 : (Jvm.Cond.instanceMethod ({ cls := "ThinSeriesModel", name := "readClause", desc := "()V" } : Jvm.MethodName)) ∈ tb := tb_at 1483 (by decide +kernel)
theorem q_1484 : (Jvm.Cond.code ({ cls := "ThinSeriesModel", name := "readClause", desc := "()V" } : Jvm.MethodName) prog_11_method_30_code (2 : Nat) (Option.none : Option Jvm.ClassFile.FieldType)) ∈ tb := tb_at 1484 (by decide +kernel)
theorem q_1485 : (Jvm.Cond.methodLink "ThinSeriesModel" (235 : Nat) ({ cls := "ThinSeriesModel", name := "which", desc := "([Ljava/lang/String;)I" } : Jvm.MethodName)) ∈ tb := tb_at 1485 (by decide +kernel)
theorem q_1487 : (Jvm.Cond.instanceMethod ({ cls := "ThinSeriesModel", name := "which", desc := "([Ljava/lang/String;)I" } : Jvm.MethodName)) ∈ tb := tb_at 1487 (by decide +kernel)
theorem q_1488 : (Jvm.Cond.code ({ cls := "ThinSeriesModel", name := "which", desc := "([Ljava/lang/String;)I" } : Jvm.MethodName) prog_11_method_16_code (3 : Nat) (Option.some Jvm.ClassFile.FieldType.int)) ∈ tb := tb_at 1488 (by decide +kernel)
theorem q_1489 : (Jvm.Cond.methodLink "ThinSeriesModel" (193 : Nat) ({ cls := "ThinSeriesModel", name := "is", desc := "(Ljava/lang/String;)Z" } : Jvm.MethodName)) ∈ tb := tb_at 1489 (by decide +kernel)
theorem q_1491 : (Jvm.Cond.instanceMethod ({ cls := "ThinSeriesModel", name := "is", desc := "(Ljava/lang/String;)Z" } : Jvm.MethodName)) ∈ tb := tb_at 1491 (by decide +kernel)
theorem q_1492 : (Jvm.Cond.code ({ cls := "ThinSeriesModel", name := "is", desc := "(Ljava/lang/String;)Z" } : Jvm.MethodName) prog_11_method_15_code (4 : Nat) (Option.some Jvm.ClassFile.FieldType.boolean)) ∈ tb := tb_at 1492 (by decide +kernel)
theorem q_1493 : (Jvm.Cond.methodLink "ThinSeriesModel" (185 : Nat) ({ cls := "java/lang/String", name := "length", desc := "()I" } : Jvm.MethodName)) ∈ tb := tb_at 1493 (by decide +kernel)
theorem q_1494 : (Jvm.Cond.methodLink "ThinSeriesModel" (189 : Nat) ({ cls := "java/lang/String", name := "charAt", desc := "(I)C" } : Jvm.MethodName)) ∈ tb := tb_at 1494 (by decide +kernel)
theorem q_1495 : (Jvm.Cond.methodLink "ThinSeriesModel" (203 : Nat) ({ cls := "ThinSeriesModel", name := "wrong", desc := "(I)V" } : Jvm.MethodName)) ∈ tb := tb_at 1495 (by decide +kernel)
theorem q_1497 : (Jvm.Cond.instanceMethod ({ cls := "ThinSeriesModel", name := "wrong", desc := "(I)V" } : Jvm.MethodName)) ∈ tb := tb_at 1497 (by decide +kernel)
theorem q_1498 : (Jvm.Cond.code ({ cls := "ThinSeriesModel", name := "wrong", desc := "(I)V" } : Jvm.MethodName) prog_11_method_14_code (2 : Nat) (Option.none : Option Jvm.ClassFile.FieldType)) ∈ tb := tb_at 1498 (by decide +kernel)
theorem q_1499 : (Jvm.Cond.methodLink "ThinSeriesModel" (207 : Nat) ({ cls := "ThinSeriesModel", name := "pass", desc := "()V" } : Jvm.MethodName)) ∈ tb := tb_at 1499 (by decide +kernel)
theorem q_1501 : (Jvm.Cond.instanceMethod ({ cls := "ThinSeriesModel", name := "pass", desc := "()V" } : Jvm.MethodName)) ∈ tb := tb_at 1501 (by decide +kernel)
theorem q_1502 : (Jvm.Cond.code ({ cls := "ThinSeriesModel", name := "pass", desc := "()V" } : Jvm.MethodName) prog_11_method_18_code (1 : Nat) (Option.none : Option Jvm.ClassFile.FieldType)) ∈ tb := tb_at 1502 (by decide +kernel)
theorem q_1503 : (Jvm.Cond.methodLink "ThinSeriesModel" (257 : Nat) ({ cls := "ThinSeriesModel", name := "readTier", desc := "()V" } : Jvm.MethodName)) ∈ tb := tb_at 1503 (by decide +kernel)
theorem q_1505 : (Jvm.Cond.instanceMethod ({ cls := "ThinSeriesModel", name := "readTier", desc := "()V" } : Jvm.MethodName)) ∈ tb := tb_at 1505 (by decide +kernel)
theorem q_1506 : (Jvm.Cond.code ({ cls := "ThinSeriesModel", name := "readTier", desc := "()V" } : Jvm.MethodName) prog_11_method_29_code (4 : Nat) (Option.none : Option Jvm.ClassFile.FieldType)) ∈ tb := tb_at 1506 (by decide +kernel)
theorem q_1507 : (Jvm.Cond.constant "ThinSeriesModel" (250 : Nat) (100000 : Int32)) ∈ tb := tb_at 1507 (by decide +kernel)
theorem q_1508 : (Jvm.Cond.methodLink "ThinSeriesModel" (214 : Nat) ({ cls := "ThinSeriesModel", name := "numberNow", desc := "(III)I" } : Jvm.MethodName)) ∈ tb := tb_at 1508 (by decide +kernel)
theorem q_1510 : (Jvm.Cond.instanceMethod ({ cls := "ThinSeriesModel", name := "numberNow", desc := "(III)I" } : Jvm.MethodName)) ∈ tb := tb_at 1510 (by decide +kernel)
theorem q_1511 : (Jvm.Cond.code ({ cls := "ThinSeriesModel", name := "numberNow", desc := "(III)I" } : Jvm.MethodName) prog_11_method_20_code (4 : Nat) (Option.some Jvm.ClassFile.FieldType.int)) ∈ tb := tb_at 1511 (by decide +kernel)
theorem q_1512 : (Jvm.Cond.methodLink "ThinSeriesModel" (210 : Nat) ({ cls := "ThinSeriesModel", name := "isIn", desc := "(JJJ)Z" } : Jvm.MethodName)) ∈ tb := tb_at 1512 (by decide +kernel)
theorem q_1513 : (Jvm.Cond.static ({ cls := "ThinSeriesModel", name := "isIn", desc := "(JJJ)Z" } : Jvm.MethodName)) ∈ tb := tb_at 1513 (by decide +kernel)
theorem q_1514 : (Jvm.Cond.code ({ cls := "ThinSeriesModel", name := "isIn", desc := "(JJJ)Z" } : Jvm.MethodName) prog_11_method_5_code (6 : Nat) (Option.some Jvm.ClassFile.FieldType.boolean)) ∈ tb := tb_at 1514 (by decide +kernel)
theorem q_1515 : (Jvm.Cond.methodLink "ThinSeriesModel" (254 : Nat) ({ cls := "ThinSeriesModel", name := "readNumber", desc := "(II)I" } : Jvm.MethodName)) ∈ tb := tb_at 1515 (by decide +kernel)
theorem q_1517 : (Jvm.Cond.instanceMethod ({ cls := "ThinSeriesModel", name := "readNumber", desc := "(II)I" } : Jvm.MethodName)) ∈ tb := tb_at 1517 (by decide +kernel)
theorem q_1518 : (Jvm.Cond.code ({ cls := "ThinSeriesModel", name := "readNumber", desc := "(II)I" } : Jvm.MethodName) prog_11_method_21_code (4 : Nat) (Option.some Jvm.ClassFile.FieldType.int)) ∈ tb := tb_at 1518 (by decide +kernel)
theorem q_1519 : (Jvm.Cond.methodLink "ThinSeriesModel" (226 : Nat) ({ cls := "ThinSeriesModel", name := "readTest", desc := "(I)V" } : Jvm.MethodName)) ∈ tb := tb_at 1519 (by decide +kernel)
theorem q_1521 : (Jvm.Cond.instanceMethod ({ cls := "ThinSeriesModel", name := "readTest", desc := "(I)V" } : Jvm.MethodName)) ∈ tb := tb_at 1521 (by decide +kernel)
theorem q_1522 : (Jvm.Cond.code ({ cls := "ThinSeriesModel", name := "readTest", desc := "(I)V" } : Jvm.MethodName) prog_11_method_28_code (2 : Nat) (Option.none : Option Jvm.ClassFile.FieldType)) ∈ tb := tb_at 1522 (by decide +kernel)
theorem q_1523 : (Jvm.Cond.methodLink "ThinSeriesModel" (245 : Nat) ({ cls := "ThinSeriesModel", name := "readAll", desc := "(I)V" } : Jvm.MethodName)) ∈ tb := tb_at 1523 (by decide +kernel)
theorem q_1525 : (Jvm.Cond.instanceMethod ({ cls := "ThinSeriesModel", name := "readAll", desc := "(I)V" } : Jvm.MethodName)) ∈ tb := tb_at 1525 (by decide +kernel)
theorem q_1526 : (Jvm.Cond.code ({ cls := "ThinSeriesModel", name := "readAll", desc := "(I)V" } : Jvm.MethodName) prog_11_method_27_code (2 : Nat) (Option.none : Option Jvm.ClassFile.FieldType)) ∈ tb := tb_at 1526 (by decide +kernel)
theorem q_1527 : (Jvm.Cond.methodLink "ThinSeriesModel" (223 : Nat) ({ cls := "ThinSeriesModel", name := "readUnit", desc := "(I)V" } : Jvm.MethodName)) ∈ tb := tb_at 1527 (by decide +kernel)
theorem q_1529 : (Jvm.Cond.instanceMethod ({ cls := "ThinSeriesModel", name := "readUnit", desc := "(I)V" } : Jvm.MethodName)) ∈ tb := tb_at 1529 (by decide +kernel)
theorem q_1530 : (Jvm.Cond.code ({ cls := "ThinSeriesModel", name := "readUnit", desc := "(I)V" } : Jvm.MethodName) prog_11_method_26_code (6 : Nat) (Option.none : Option Jvm.ClassFile.FieldType)) ∈ tb := tb_at 1530 (by decide +kernel)
theorem q_1532 : (Jvm.Cond.methodLink "ThinSeriesModel" (200 : Nat) ({ cls := "ThinSeriesModel", name := "isMarked", desc := "(I)Z" } : Jvm.MethodName)) ∈ tb := tb_at 1532 (by decide +kernel)
theorem q_1534 : (Jvm.Cond.instanceMethod ({ cls := "ThinSeriesModel", name := "isMarked", desc := "(I)Z" } : Jvm.MethodName)) ∈ tb := tb_at 1534 (by decide +kernel)
theorem q_1535 : (Jvm.Cond.code ({ cls := "ThinSeriesModel", name := "isMarked", desc := "(I)Z" } : Jvm.MethodName) prog_11_method_17_code (2 : Nat) (Option.some Jvm.ClassFile.FieldType.boolean)) ∈ tb := tb_at 1535 (by decide +kernel)
theorem q_1536 : (Jvm.Cond.methodLink "ThinSeriesModel" (229 : Nat) ({ cls := "ThinSeriesModel", name := "lay", desc := "(I)V" } : Jvm.MethodName)) ∈ tb := tb_at 1536 (by decide +kernel)
theorem q_1538 : (Jvm.Cond.instanceMethod ({ cls := "ThinSeriesModel", name := "lay", desc := "(I)V" } : Jvm.MethodName)) ∈ tb := tb_at 1538 (by decide +kernel)
theorem q_1539 : (Jvm.Cond.code ({ cls := "ThinSeriesModel", name := "lay", desc := "(I)V" } : Jvm.MethodName) prog_11_method_25_code (2 : Nat) (Option.none : Option Jvm.ClassFile.FieldType)) ∈ tb := tb_at 1539 (by decide +kernel)
theorem q_1540 : (Jvm.Cond.methodLink "ThinSeriesModel" (232 : Nat) ({ cls := "ThinSeriesModel", name := "mark", desc := "(I)V" } : Jvm.MethodName)) ∈ tb := tb_at 1540 (by decide +kernel)
theorem q_1542 : (Jvm.Cond.instanceMethod ({ cls := "ThinSeriesModel", name := "mark", desc := "(I)V" } : Jvm.MethodName)) ∈ tb := tb_at 1542 (by decide +kernel)
theorem q_1543 : (Jvm.Cond.code ({ cls := "ThinSeriesModel", name := "mark", desc := "(I)V" } : Jvm.MethodName) prog_11_method_19_code (2 : Nat) (Option.none : Option Jvm.ClassFile.FieldType)) ∈ tb := tb_at 1543 (by decide +kernel)
theorem q_1544 : (Jvm.Cond.constant "ThinSeriesModel" (239 : Nat) (-100000000 : Int32)) ∈ tb := tb_at 1544 (by decide +kernel)
theorem q_1545 : (Jvm.Cond.methodLink "ThinSeriesModel" (240 : Nat) ({ cls := "ThinSeriesModel", name := "readSigned", desc := "(II)I" } : Jvm.MethodName)) ∈ tb := tb_at 1545 (by decide +kernel)
theorem q_1547 : (Jvm.Cond.instanceMethod ({ cls := "ThinSeriesModel", name := "readSigned", desc := "(II)I" } : Jvm.MethodName)) ∈ tb := tb_at 1547 (by decide +kernel)
theorem q_1548 : (Jvm.Cond.code ({ cls := "ThinSeriesModel", name := "readSigned", desc := "(II)I" } : Jvm.MethodName) prog_11_method_22_code (5 : Nat) (Option.some Jvm.ClassFile.FieldType.int)) ∈ tb := tb_at 1548 (by decide +kernel)
theorem q_1551 : (Jvm.Cond.methodLink "ThinSeriesModel" (272 : Nat) ({ cls := "ThinSeriesModel", name := "ended", desc := "()I" } : Jvm.MethodName)) ∈ tb := tb_at 1551 (by decide +kernel)
theorem q_1553 : (Jvm.Cond.instanceMethod ({ cls := "ThinSeriesModel", name := "ended", desc := "()I" } : Jvm.MethodName)) ∈ tb := tb_at 1553 (by decide +kernel)
theorem q_1554 : (Jvm.Cond.code ({ cls := "ThinSeriesModel", name := "ended", desc := "()I" } : Jvm.MethodName) prog_11_method_24_code (1 : Nat) (Option.some Jvm.ClassFile.FieldType.int)) ∈ tb := tb_at 1554 (by decide +kernel)
theorem q_1555 : (Jvm.Cond.methodLink "ThinSeriesLaw" (102 : Nat) ({ cls := "ThinSeriesModel", name := "fault", desc := "()I" } : Jvm.MethodName)) ∈ tb := tb_at 1555 (by decide +kernel)
theorem q_1556 : (Jvm.Cond.instanceMethod ({ cls := "ThinSeriesModel", name := "fault", desc := "()I" } : Jvm.MethodName)) ∈ tb := tb_at 1556 (by decide +kernel)
theorem q_1557 : (Jvm.Cond.selects "ThinSeriesModel" ({ cls := "ThinSeriesModel", name := "fault", desc := "()I" } : Jvm.MethodName) ({ cls := "ThinSeriesModel", name := "fault", desc := "()I" } : Jvm.MethodName)) ∈ tb := tb_at 1557 (by decide +kernel)
theorem q_1558 : (Jvm.Cond.code ({ cls := "ThinSeriesModel", name := "fault", desc := "()I" } : Jvm.MethodName) prog_11_method_32_code (1 : Nat) (Option.some Jvm.ClassFile.FieldType.int)) ∈ tb := tb_at 1558 (by decide +kernel)
theorem q_1559 : (Jvm.Cond.methodLink "ThinSeriesLaw" (106 : Nat) ({ cls := "ThinSeriesModel", name := "put", desc := "(III)I" } : Jvm.MethodName)) ∈ tb := tb_at 1559 (by decide +kernel)
theorem q_1560 : (Jvm.Cond.instanceMethod ({ cls := "ThinSeriesModel", name := "put", desc := "(III)I" } : Jvm.MethodName)) ∈ tb := tb_at 1560 (by decide +kernel)
theorem q_1561 : (Jvm.Cond.selects "ThinSeriesModel" ({ cls := "ThinSeriesModel", name := "put", desc := "(III)I" } : Jvm.MethodName) ({ cls := "ThinSeriesModel", name := "put", desc := "(III)I" } : Jvm.MethodName)) ∈ tb := tb_at 1561 (by decide +kernel)
theorem q_1562 : (Jvm.Cond.code ({ cls := "ThinSeriesModel", name := "put", desc := "(III)I" } : Jvm.MethodName) prog_11_method_54_code (4 : Nat) (Option.some Jvm.ClassFile.FieldType.int)) ∈ tb := tb_at 1562 (by decide +kernel)
theorem q_1563 : (Jvm.Cond.methodLink "ThinSeriesModel" (357 : Nat) ({ cls := "ThinSeriesModel", name := "fine", desc := "()V" } : Jvm.MethodName)) ∈ tb := tb_at 1563 (by decide +kernel)
theorem q_1565 : (Jvm.Cond.instanceMethod ({ cls := "ThinSeriesModel", name := "fine", desc := "()V" } : Jvm.MethodName)) ∈ tb := tb_at 1565 (by decide +kernel)
theorem q_1566 : (Jvm.Cond.code ({ cls := "ThinSeriesModel", name := "fine", desc := "()V" } : Jvm.MethodName) prog_11_method_52_code (1 : Nat) (Option.none : Option Jvm.ClassFile.FieldType)) ∈ tb := tb_at 1566 (by decide +kernel)
theorem q_1567 : (Jvm.Cond.methodLink "ThinSeriesModel" (360 : Nat) ({ cls := "ThinSeriesModel", name := "isId", desc := "(I)Z" } : Jvm.MethodName)) ∈ tb := tb_at 1567 (by decide +kernel)
theorem q_1568 : (Jvm.Cond.static ({ cls := "ThinSeriesModel", name := "isId", desc := "(I)Z" } : Jvm.MethodName)) ∈ tb := tb_at 1568 (by decide +kernel)
theorem q_1569 : (Jvm.Cond.code ({ cls := "ThinSeriesModel", name := "isId", desc := "(I)Z" } : Jvm.MethodName) prog_11_method_47_code (1 : Nat) (Option.some Jvm.ClassFile.FieldType.boolean)) ∈ tb := tb_at 1569 (by decide +kernel)
theorem q_1570 : (Jvm.Cond.constantLong "ThinSeriesModel" (333 : Nat) (9 : Int64)) ∈ tb := tb_at 1570 (by decide +kernel)
theorem q_1571 : (Jvm.Cond.methodLink "ThinSeriesModel" (363 : Nat) ({ cls := "ThinSeriesModel", name := "isTime", desc := "(J)Z" } : Jvm.MethodName)) ∈ tb := tb_at 1571 (by decide +kernel)
theorem q_1572 : (Jvm.Cond.static ({ cls := "ThinSeriesModel", name := "isTime", desc := "(J)Z" } : Jvm.MethodName)) ∈ tb := tb_at 1572 (by decide +kernel)
theorem q_1573 : (Jvm.Cond.code ({ cls := "ThinSeriesModel", name := "isTime", desc := "(J)Z" } : Jvm.MethodName) prog_11_method_48_code (2 : Nat) (Option.some Jvm.ClassFile.FieldType.boolean)) ∈ tb := tb_at 1573 (by decide +kernel)
theorem q_1574 : (Jvm.Cond.constantLong "ThinSeriesModel" (335 : Nat) (-1000000 : Int64)) ∈ tb := tb_at 1574 (by decide +kernel)
theorem q_1575 : (Jvm.Cond.constantLong "ThinSeriesModel" (337 : Nat) (1000000 : Int64)) ∈ tb := tb_at 1575 (by decide +kernel)
theorem q_1576 : (Jvm.Cond.methodLink "ThinSeriesModel" (367 : Nat) ({ cls := "ThinSeriesModel", name := "isValue", desc := "(J)Z" } : Jvm.MethodName)) ∈ tb := tb_at 1576 (by decide +kernel)
theorem q_1577 : (Jvm.Cond.static ({ cls := "ThinSeriesModel", name := "isValue", desc := "(J)Z" } : Jvm.MethodName)) ∈ tb := tb_at 1577 (by decide +kernel)
theorem q_1578 : (Jvm.Cond.code ({ cls := "ThinSeriesModel", name := "isValue", desc := "(J)Z" } : Jvm.MethodName) prog_11_method_49_code (2 : Nat) (Option.some Jvm.ClassFile.FieldType.boolean)) ∈ tb := tb_at 1578 (by decide +kernel)
theorem q_1579 : (Jvm.Cond.constantLong "ThinSeriesModel" (339 : Nat) (-10000 : Int64)) ∈ tb := tb_at 1579 (by decide +kernel)
theorem q_1580 : (Jvm.Cond.constantLong "ThinSeriesModel" (341 : Nat) (10000 : Int64)) ∈ tb := tb_at 1580 (by decide +kernel)
theorem q_1581 : (Jvm.Cond.methodLink "ThinSeriesModel" (370 : Nat) ({ cls := "ThinSeriesModel", name := "refuse", desc := "(I)I" } : Jvm.MethodName)) ∈ tb := tb_at 1581 (by decide +kernel)
theorem q_1583 : (Jvm.Cond.instanceMethod ({ cls := "ThinSeriesModel", name := "refuse", desc := "(I)I" } : Jvm.MethodName)) ∈ tb := tb_at 1583 (by decide +kernel)
theorem q_1584 : (Jvm.Cond.code ({ cls := "ThinSeriesModel", name := "refuse", desc := "(I)I" } : Jvm.MethodName) prog_11_method_51_code (2 : Nat) (Option.some Jvm.ClassFile.FieldType.int)) ∈ tb := tb_at 1584 (by decide +kernel)
theorem q_1585 : (Jvm.Cond.methodLink "ThinSeriesModel" (373 : Nat) ({ cls := "ThinSeriesModel", name := "isLate", desc := "(II)Z" } : Jvm.MethodName)) ∈ tb := tb_at 1585 (by decide +kernel)
theorem q_1587 : (Jvm.Cond.instanceMethod ({ cls := "ThinSeriesModel", name := "isLate", desc := "(II)Z" } : Jvm.MethodName)) ∈ tb := tb_at 1587 (by decide +kernel)
theorem q_1588 : (Jvm.Cond.code ({ cls := "ThinSeriesModel", name := "isLate", desc := "(II)Z" } : Jvm.MethodName) prog_11_method_46_code (3 : Nat) (Option.some Jvm.ClassFile.FieldType.boolean)) ∈ tb := tb_at 1588 (by decide +kernel)
theorem q_1589 : (Jvm.Cond.methodLink "ThinSeriesModel" (324 : Nat) ({ cls := "ThinSeriesModel", name := "lastSeam", desc := "(I)I" } : Jvm.MethodName)) ∈ tb := tb_at 1589 (by decide +kernel)
theorem q_1591 : (Jvm.Cond.instanceMethod ({ cls := "ThinSeriesModel", name := "lastSeam", desc := "(I)I" } : Jvm.MethodName)) ∈ tb := tb_at 1591 (by decide +kernel)
theorem q_1592 : (Jvm.Cond.code ({ cls := "ThinSeriesModel", name := "lastSeam", desc := "(I)I" } : Jvm.MethodName) prog_11_method_35_code (2 : Nat) (Option.some Jvm.ClassFile.FieldType.int)) ∈ tb := tb_at 1592 (by decide +kernel)
theorem q_1593 : (Jvm.Cond.methodLink "ThinSeriesModel" (285 : Nat) ({ cls := "ThinSeriesModel", name := "seamBy", desc := "(II)I" } : Jvm.MethodName)) ∈ tb := tb_at 1593 (by decide +kernel)
theorem q_1595 : (Jvm.Cond.instanceMethod ({ cls := "ThinSeriesModel", name := "seamBy", desc := "(II)I" } : Jvm.MethodName)) ∈ tb := tb_at 1595 (by decide +kernel)
theorem q_1596 : (Jvm.Cond.code ({ cls := "ThinSeriesModel", name := "seamBy", desc := "(II)I" } : Jvm.MethodName) prog_11_method_33_code (8 : Nat) (Option.some Jvm.ClassFile.FieldType.int)) ∈ tb := tb_at 1596 (by decide +kernel)
theorem q_1597 : (Jvm.Cond.methodLink "ThinSeriesModel" (133 : Nat) ({ cls := "ThinSeriesModel", name := "by", desc := "(JJ)J" } : Jvm.MethodName)) ∈ tb := tb_at 1597 (by decide +kernel)
theorem q_1598 : (Jvm.Cond.static ({ cls := "ThinSeriesModel", name := "by", desc := "(JJ)J" } : Jvm.MethodName)) ∈ tb := tb_at 1598 (by decide +kernel)
theorem q_1599 : (Jvm.Cond.code ({ cls := "ThinSeriesModel", name := "by", desc := "(JJ)J" } : Jvm.MethodName) prog_11_method_6_code (4 : Nat) (Option.some Jvm.ClassFile.FieldType.long)) ∈ tb := tb_at 1599 (by decide +kernel)
theorem q_1600 : (Jvm.Cond.methodLink "ThinSeriesModel" (281 : Nat) ({ cls := "ThinSeriesModel", name := "multiple", desc := "(JI)I" } : Jvm.MethodName)) ∈ tb := tb_at 1600 (by decide +kernel)
theorem q_1601 : (Jvm.Cond.static ({ cls := "ThinSeriesModel", name := "multiple", desc := "(JI)I" } : Jvm.MethodName)) ∈ tb := tb_at 1601 (by decide +kernel)
theorem q_1602 : (Jvm.Cond.code ({ cls := "ThinSeriesModel", name := "multiple", desc := "(JI)I" } : Jvm.MethodName) prog_11_method_7_code (3 : Nat) (Option.some Jvm.ClassFile.FieldType.int)) ∈ tb := tb_at 1602 (by decide +kernel)
theorem q_1603 : (Jvm.Cond.methodLink "ThinSeriesModel" (380 : Nat) ({ cls := "ThinSeriesModel", name := "isLateBy", desc := "(II)V" } : Jvm.MethodName)) ∈ tb := tb_at 1603 (by decide +kernel)
theorem q_1605 : (Jvm.Cond.instanceMethod ({ cls := "ThinSeriesModel", name := "isLateBy", desc := "(II)V" } : Jvm.MethodName)) ∈ tb := tb_at 1605 (by decide +kernel)
theorem q_1606 : (Jvm.Cond.code ({ cls := "ThinSeriesModel", name := "isLateBy", desc := "(II)V" } : Jvm.MethodName) prog_11_method_53_code (3 : Nat) (Option.none : Option Jvm.ClassFile.FieldType)) ∈ tb := tb_at 1606 (by decide +kernel)
theorem q_1607 : (Jvm.Cond.methodLink "ThinSeriesModel" (383 : Nat) ({ cls := "ThinSeriesModel", name := "puts", desc := "(III)V" } : Jvm.MethodName)) ∈ tb := tb_at 1607 (by decide +kernel)
theorem q_1609 : (Jvm.Cond.instanceMethod ({ cls := "ThinSeriesModel", name := "puts", desc := "(III)V" } : Jvm.MethodName)) ∈ tb := tb_at 1609 (by decide +kernel)
theorem q_1610 : (Jvm.Cond.code ({ cls := "ThinSeriesModel", name := "puts", desc := "(III)V" } : Jvm.MethodName) prog_11_method_50_code (4 : Nat) (Option.none : Option Jvm.ClassFile.FieldType)) ∈ tb := tb_at 1610 (by decide +kernel)
theorem q_1611 : (Jvm.Cond.methodLink "ThinSeriesModel" (343 : Nat) ({ cls := "ThinSeriesModel", name := "rises", desc := "(II)V" } : Jvm.MethodName)) ∈ tb := tb_at 1611 (by decide +kernel)
theorem q_1613 : (Jvm.Cond.instanceMethod ({ cls := "ThinSeriesModel", name := "rises", desc := "(II)V" } : Jvm.MethodName)) ∈ tb := tb_at 1613 (by decide +kernel)
theorem q_1614 : (Jvm.Cond.code ({ cls := "ThinSeriesModel", name := "rises", desc := "(II)V" } : Jvm.MethodName) prog_11_method_45_code (4 : Nat) (Option.none : Option Jvm.ClassFile.FieldType)) ∈ tb := tb_at 1614 (by decide +kernel)
theorem q_1615 : (Jvm.Cond.methodLink "ThinSeriesModel" (309 : Nat) ({ cls := "ThinSeriesModel", name := "series", desc := "()I" } : Jvm.MethodName)) ∈ tb := tb_at 1615 (by decide +kernel)
theorem q_1617 : (Jvm.Cond.instanceMethod ({ cls := "ThinSeriesModel", name := "series", desc := "()I" } : Jvm.MethodName)) ∈ tb := tb_at 1617 (by decide +kernel)
theorem q_1618 : (Jvm.Cond.code ({ cls := "ThinSeriesModel", name := "series", desc := "()I" } : Jvm.MethodName) prog_11_method_42_code (3 : Nat) (Option.some Jvm.ClassFile.FieldType.int)) ∈ tb := tb_at 1618 (by decide +kernel)
theorem q_1619 : (Jvm.Cond.methodLink "ThinSeriesModel" (312 : Nat) ({ cls := "ThinSeriesModel", name := "oldest", desc := "()I" } : Jvm.MethodName)) ∈ tb := tb_at 1619 (by decide +kernel)
theorem q_1621 : (Jvm.Cond.instanceMethod ({ cls := "ThinSeriesModel", name := "oldest", desc := "()I" } : Jvm.MethodName)) ∈ tb := tb_at 1621 (by decide +kernel)
theorem q_1622 : (Jvm.Cond.code ({ cls := "ThinSeriesModel", name := "oldest", desc := "()I" } : Jvm.MethodName) prog_11_method_44_code (3 : Nat) (Option.some Jvm.ClassFile.FieldType.int)) ∈ tb := tb_at 1622 (by decide +kernel)
theorem q_1623 : (Jvm.Cond.methodLink "ThinSeriesModel" (315 : Nat) ({ cls := "ThinSeriesModel", name := "leaves", desc := "(I)I" } : Jvm.MethodName)) ∈ tb := tb_at 1623 (by decide +kernel)
theorem q_1625 : (Jvm.Cond.instanceMethod ({ cls := "ThinSeriesModel", name := "leaves", desc := "(I)I" } : Jvm.MethodName)) ∈ tb := tb_at 1625 (by decide +kernel)
theorem q_1626 : (Jvm.Cond.code ({ cls := "ThinSeriesModel", name := "leaves", desc := "(I)I" } : Jvm.MethodName) prog_11_method_43_code (2 : Nat) (Option.some Jvm.ClassFile.FieldType.int)) ∈ tb := tb_at 1626 (by decide +kernel)
theorem q_1627 : (Jvm.Cond.methodLink "ThinSeriesModel" (300 : Nat) ({ cls := "ThinSeriesModel", name := "firstOf", desc := "(I)I" } : Jvm.MethodName)) ∈ tb := tb_at 1627 (by decide +kernel)
theorem q_1629 : (Jvm.Cond.instanceMethod ({ cls := "ThinSeriesModel", name := "firstOf", desc := "(I)I" } : Jvm.MethodName)) ∈ tb := tb_at 1629 (by decide +kernel)
theorem q_1630 : (Jvm.Cond.code ({ cls := "ThinSeriesModel", name := "firstOf", desc := "(I)I" } : Jvm.MethodName) prog_11_method_37_code (2 : Nat) (Option.some Jvm.ClassFile.FieldType.int)) ∈ tb := tb_at 1630 (by decide +kernel)
theorem q_1631 : (Jvm.Cond.constantLong "ThinSeriesModel" (288 : Nat) (-200000000 : Int64)) ∈ tb := tb_at 1631 (by decide +kernel)
theorem q_1632 : (Jvm.Cond.methodLink "ThinSeriesModel" (290 : Nat) ({ cls := "ThinSeriesModel", name := "placeOf", desc := "(IJ)I" } : Jvm.MethodName)) ∈ tb := tb_at 1632 (by decide +kernel)
theorem q_1634 : (Jvm.Cond.instanceMethod ({ cls := "ThinSeriesModel", name := "placeOf", desc := "(IJ)I" } : Jvm.MethodName)) ∈ tb := tb_at 1634 (by decide +kernel)
theorem q_1635 : (Jvm.Cond.code ({ cls := "ThinSeriesModel", name := "placeOf", desc := "(IJ)I" } : Jvm.MethodName) prog_11_method_36_code (8 : Nat) (Option.some Jvm.ClassFile.FieldType.int)) ∈ tb := tb_at 1635 (by decide +kernel)
theorem q_1636 : (Jvm.Cond.methodLink "ThinSeriesModel" (303 : Nat) ({ cls := "ThinSeriesModel", name := "behindOf", desc := "(I)I" } : Jvm.MethodName)) ∈ tb := tb_at 1636 (by decide +kernel)
theorem q_1638 : (Jvm.Cond.instanceMethod ({ cls := "ThinSeriesModel", name := "behindOf", desc := "(I)I" } : Jvm.MethodName)) ∈ tb := tb_at 1638 (by decide +kernel)
theorem q_1639 : (Jvm.Cond.code ({ cls := "ThinSeriesModel", name := "behindOf", desc := "(I)I" } : Jvm.MethodName) prog_11_method_38_code (2 : Nat) (Option.some Jvm.ClassFile.FieldType.int)) ∈ tb := tb_at 1639 (by decide +kernel)
theorem q_1640 : (Jvm.Cond.constantLong "ThinSeriesModel" (294 : Nat) (200000000 : Int64)) ∈ tb := tb_at 1640 (by decide +kernel)
theorem q_1641 : (Jvm.Cond.methodLink "ThinSeriesModel" (306 : Nat) ({ cls := "ThinSeriesModel", name := "goes", desc := "(II)I" } : Jvm.MethodName)) ∈ tb := tb_at 1641 (by decide +kernel)
theorem q_1643 : (Jvm.Cond.instanceMethod ({ cls := "ThinSeriesModel", name := "goes", desc := "(II)I" } : Jvm.MethodName)) ∈ tb := tb_at 1643 (by decide +kernel)
theorem q_1644 : (Jvm.Cond.code ({ cls := "ThinSeriesModel", name := "goes", desc := "(II)I" } : Jvm.MethodName) prog_11_method_41_code (5 : Nat) (Option.some Jvm.ClassFile.FieldType.int)) ∈ tb := tb_at 1644 (by decide +kernel)
theorem q_1645 : (Jvm.Cond.methodLink "ThinSeriesModel" (321 : Nat) ({ cls := "java/lang/Math", name := "max", desc := "(II)I" } : Jvm.MethodName)) ∈ tb := tb_at 1645 (by decide +kernel)
theorem q_1646 : (Jvm.Cond.methodLink "ThinSeriesModel" (347 : Nat) ({ cls := "ThinSeriesModel", name := "comes", desc := "(III)V" } : Jvm.MethodName)) ∈ tb := tb_at 1646 (by decide +kernel)
theorem q_1648 : (Jvm.Cond.instanceMethod ({ cls := "ThinSeriesModel", name := "comes", desc := "(III)V" } : Jvm.MethodName)) ∈ tb := tb_at 1648 (by decide +kernel)
theorem q_1649 : (Jvm.Cond.code ({ cls := "ThinSeriesModel", name := "comes", desc := "(III)V" } : Jvm.MethodName) prog_11_method_40_code (6 : Nat) (Option.none : Option Jvm.ClassFile.FieldType)) ∈ tb := tb_at 1649 (by decide +kernel)
theorem q_1650 : (Jvm.Cond.methodLink "ThinSeriesModel" (296 : Nat) ({ cls := "ThinSeriesModel", name := "longer", desc := "([I)[I" } : Jvm.MethodName)) ∈ tb := tb_at 1650 (by decide +kernel)
theorem q_1651 : (Jvm.Cond.static ({ cls := "ThinSeriesModel", name := "longer", desc := "([I)[I" } : Jvm.MethodName)) ∈ tb := tb_at 1651 (by decide +kernel)
theorem q_1652 : (Jvm.Cond.code ({ cls := "ThinSeriesModel", name := "longer", desc := "([I)[I" } : Jvm.MethodName) prog_11_method_39_code (3 : Nat) (Option.some (Jvm.ClassFile.FieldType.array Jvm.ClassFile.FieldType.int))) ∈ tb := tb_at 1652 (by decide +kernel)
theorem q_1653 : (Jvm.Cond.methodLink "ThinSeriesModel" (386 : Nat) ({ cls := "ThinSeriesModel", name := "tierBy", desc := "(II)I" } : Jvm.MethodName)) ∈ tb := tb_at 1653 (by decide +kernel)
theorem q_1655 : (Jvm.Cond.instanceMethod ({ cls := "ThinSeriesModel", name := "tierBy", desc := "(II)I" } : Jvm.MethodName)) ∈ tb := tb_at 1655 (by decide +kernel)
theorem q_1656 : (Jvm.Cond.code ({ cls := "ThinSeriesModel", name := "tierBy", desc := "(II)I" } : Jvm.MethodName) prog_11_method_34_code (4 : Nat) (Option.some Jvm.ClassFile.FieldType.int)) ∈ tb := tb_at 1656 (by decide +kernel)
theorem q_1657 : (Jvm.Cond.methodLink "ThinSeriesLaw" (110 : Nat) ({ cls := "ThinSeriesModel", name := "tick", desc := "(II)I" } : Jvm.MethodName)) ∈ tb := tb_at 1657 (by decide +kernel)
theorem q_1658 : (Jvm.Cond.instanceMethod ({ cls := "ThinSeriesModel", name := "tick", desc := "(II)I" } : Jvm.MethodName)) ∈ tb := tb_at 1658 (by decide +kernel)
theorem q_1659 : (Jvm.Cond.selects "ThinSeriesModel" ({ cls := "ThinSeriesModel", name := "tick", desc := "(II)I" } : Jvm.MethodName) ({ cls := "ThinSeriesModel", name := "tick", desc := "(II)I" } : Jvm.MethodName)) ∈ tb := tb_at 1659 (by decide +kernel)
theorem q_1660 : (Jvm.Cond.code ({ cls := "ThinSeriesModel", name := "tick", desc := "(II)I" } : Jvm.MethodName) prog_11_method_55_code (3 : Nat) (Option.some Jvm.ClassFile.FieldType.int)) ∈ tb := tb_at 1660 (by decide +kernel)
theorem q_1661 : (Jvm.Cond.methodLink "ThinSeriesModel" (389 : Nat) ({ cls := "ThinSeriesModel", name := "allBuckets", desc := "(I)I" } : Jvm.MethodName)) ∈ tb := tb_at 1661 (by decide +kernel)
theorem q_1663 : (Jvm.Cond.instanceMethod ({ cls := "ThinSeriesModel", name := "allBuckets", desc := "(I)I" } : Jvm.MethodName)) ∈ tb := tb_at 1663 (by decide +kernel)
theorem q_1664 : (Jvm.Cond.code ({ cls := "ThinSeriesModel", name := "allBuckets", desc := "(I)I" } : Jvm.MethodName) prog_11_method_67_code (5 : Nat) (Option.some Jvm.ClassFile.FieldType.int)) ∈ tb := tb_at 1664 (by decide +kernel)
theorem q_1665 : (Jvm.Cond.methodLink "ThinSeriesModel" (430 : Nat) ({ cls := "ThinSeriesModel", name := "bucketFrom", desc := "(I)I" } : Jvm.MethodName)) ∈ tb := tb_at 1665 (by decide +kernel)
theorem q_1667 : (Jvm.Cond.instanceMethod ({ cls := "ThinSeriesModel", name := "bucketFrom", desc := "(I)I" } : Jvm.MethodName)) ∈ tb := tb_at 1667 (by decide +kernel)
theorem q_1668 : (Jvm.Cond.code ({ cls := "ThinSeriesModel", name := "bucketFrom", desc := "(I)I" } : Jvm.MethodName) prog_11_method_65_code (4 : Nat) (Option.some Jvm.ClassFile.FieldType.int)) ∈ tb := tb_at 1668 (by decide +kernel)
theorem q_1669 : (Jvm.Cond.methodLink "ThinSeriesLaw" (114 : Nat) ({ cls := "ThinSeriesModel", name := "drop", desc := "(I)I" } : Jvm.MethodName)) ∈ tb := tb_at 1669 (by decide +kernel)
theorem q_1670 : (Jvm.Cond.instanceMethod ({ cls := "ThinSeriesModel", name := "drop", desc := "(I)I" } : Jvm.MethodName)) ∈ tb := tb_at 1670 (by decide +kernel)
theorem q_1671 : (Jvm.Cond.selects "ThinSeriesModel" ({ cls := "ThinSeriesModel", name := "drop", desc := "(I)I" } : Jvm.MethodName) ({ cls := "ThinSeriesModel", name := "drop", desc := "(I)I" } : Jvm.MethodName)) ∈ tb := tb_at 1671 (by decide +kernel)
theorem q_1672 : (Jvm.Cond.code ({ cls := "ThinSeriesModel", name := "drop", desc := "(I)I" } : Jvm.MethodName) prog_11_method_56_code (2 : Nat) (Option.some Jvm.ClassFile.FieldType.int)) ∈ tb := tb_at 1672 (by decide +kernel)
theorem q_1673 : (Jvm.Cond.methodLink "ThinSeriesLaw" (119 : Nat) ({ cls := "ThinSeriesModel", name := "sheet", desc := "(IIIIII)I" } : Jvm.MethodName)) ∈ tb := tb_at 1673 (by decide +kernel)
theorem q_1674 : (Jvm.Cond.instanceMethod ({ cls := "ThinSeriesModel", name := "sheet", desc := "(IIIIII)I" } : Jvm.MethodName)) ∈ tb := tb_at 1674 (by decide +kernel)
theorem q_1675 : (Jvm.Cond.selects "ThinSeriesModel" ({ cls := "ThinSeriesModel", name := "sheet", desc := "(IIIIII)I" } : Jvm.MethodName) ({ cls := "ThinSeriesModel", name := "sheet", desc := "(IIIIII)I" } : Jvm.MethodName)) ∈ tb := tb_at 1675 (by decide +kernel)
theorem q_1676 : (Jvm.Cond.code ({ cls := "ThinSeriesModel", name := "sheet", desc := "(IIIIII)I" } : Jvm.MethodName) prog_11_method_57_code (13 : Nat) (Option.some Jvm.ClassFile.FieldType.int)) ∈ tb := tb_at 1676 (by decide +kernel)
theorem q_1677 : (Jvm.Cond.constantLong "ThinSeriesModel" (392 : Nat) (60 : Int64)) ∈ tb := tb_at 1677 (by decide +kernel)
theorem q_1678 : (Jvm.Cond.methodLink "ThinSeriesLaw" (122 : Nat) ({ cls := "ThinSeriesModel", name := "why", desc := "(I)I" } : Jvm.MethodName)) ∈ tb := tb_at 1678 (by decide +kernel)
theorem q_1679 : (Jvm.Cond.instanceMethod ({ cls := "ThinSeriesModel", name := "why", desc := "(I)I" } : Jvm.MethodName)) ∈ tb := tb_at 1679 (by decide +kernel)
theorem q_1680 : (Jvm.Cond.selects "ThinSeriesModel" ({ cls := "ThinSeriesModel", name := "why", desc := "(I)I" } : Jvm.MethodName) ({ cls := "ThinSeriesModel", name := "why", desc := "(I)I" } : Jvm.MethodName)) ∈ tb := tb_at 1680 (by decide +kernel)
theorem q_1681 : (Jvm.Cond.code ({ cls := "ThinSeriesModel", name := "why", desc := "(I)I" } : Jvm.MethodName) prog_11_method_58_code (2 : Nat) (Option.some Jvm.ClassFile.FieldType.int)) ∈ tb := tb_at 1681 (by decide +kernel)
theorem q_1682 : (Jvm.Cond.methodLink "ThinSeriesLaw" (98 : Nat) ({ cls := "ThinSeriesModel", name := "batch", desc := "(I)I" } : Jvm.MethodName)) ∈ tb := tb_at 1682 (by decide +kernel)
theorem q_1683 : (Jvm.Cond.instanceMethod ({ cls := "ThinSeriesModel", name := "batch", desc := "(I)I" } : Jvm.MethodName)) ∈ tb := tb_at 1683 (by decide +kernel)
theorem q_1684 : (Jvm.Cond.selects "ThinSeriesModel" ({ cls := "ThinSeriesModel", name := "batch", desc := "(I)I" } : Jvm.MethodName) ({ cls := "ThinSeriesModel", name := "batch", desc := "(I)I" } : Jvm.MethodName)) ∈ tb := tb_at 1684 (by decide +kernel)
theorem q_1685 : (Jvm.Cond.code ({ cls := "ThinSeriesModel", name := "batch", desc := "(I)I" } : Jvm.MethodName) prog_11_method_64_code (3 : Nat) (Option.some Jvm.ClassFile.FieldType.int)) ∈ tb := tb_at 1685 (by decide +kernel)
theorem q_1686 : (Jvm.Cond.methodLink "ThinSeriesModel" (403 : Nat) ({ cls := "ThinSeriesModel", name := "readLine", desc := "()V" } : Jvm.MethodName)) ∈ tb := tb_at 1686 (by decide +kernel)
theorem q_1688 : (Jvm.Cond.instanceMethod ({ cls := "ThinSeriesModel", name := "readLine", desc := "()V" } : Jvm.MethodName)) ∈ tb := tb_at 1688 (by decide +kernel)
theorem q_1689 : (Jvm.Cond.code ({ cls := "ThinSeriesModel", name := "readLine", desc := "()V" } : Jvm.MethodName) prog_11_method_59_code (5 : Nat) (Option.none : Option Jvm.ClassFile.FieldType)) ∈ tb := tb_at 1689 (by decide +kernel)
theorem q_1690 : (Jvm.Cond.constant "ThinSeriesModel" (394 : Nat) (-1000000 : Int32)) ∈ tb := tb_at 1690 (by decide +kernel)
theorem q_1691 : (Jvm.Cond.constant "ThinSeriesModel" (395 : Nat) (1000000 : Int32)) ∈ tb := tb_at 1691 (by decide +kernel)
theorem q_1692 : (Jvm.Cond.methodLink "ThinSeriesModel" (406 : Nat) ({ cls := "ThinSeriesModel", name := "laysAside", desc := "()V" } : Jvm.MethodName)) ∈ tb := tb_at 1692 (by decide +kernel)
theorem q_1694 : (Jvm.Cond.instanceMethod ({ cls := "ThinSeriesModel", name := "laysAside", desc := "()V" } : Jvm.MethodName)) ∈ tb := tb_at 1694 (by decide +kernel)
theorem q_1695 : (Jvm.Cond.code ({ cls := "ThinSeriesModel", name := "laysAside", desc := "()V" } : Jvm.MethodName) prog_11_method_61_code (2 : Nat) (Option.none : Option Jvm.ClassFile.FieldType)) ∈ tb := tb_at 1695 (by decide +kernel)
theorem q_1696 : (Jvm.Cond.methodLink "ThinSeriesModel" (399 : Nat) ({ cls := "ThinSeriesModel", name := "copies", desc := "([I[II)V" } : Jvm.MethodName)) ∈ tb := tb_at 1696 (by decide +kernel)
theorem q_1697 : (Jvm.Cond.static ({ cls := "ThinSeriesModel", name := "copies", desc := "([I[II)V" } : Jvm.MethodName)) ∈ tb := tb_at 1697 (by decide +kernel)
theorem q_1698 : (Jvm.Cond.code ({ cls := "ThinSeriesModel", name := "copies", desc := "([I[II)V" } : Jvm.MethodName) prog_11_method_60_code (4 : Nat) (Option.none : Option Jvm.ClassFile.FieldType)) ∈ tb := tb_at 1698 (by decide +kernel)
theorem q_1699 : (Jvm.Cond.methodLink "ThinSeriesModel" (409 : Nat) ({ cls := "ThinSeriesModel", name := "does", desc := "(IIII)I" } : Jvm.MethodName)) ∈ tb := tb_at 1699 (by decide +kernel)
theorem q_1701 : (Jvm.Cond.instanceMethod ({ cls := "ThinSeriesModel", name := "does", desc := "(IIII)I" } : Jvm.MethodName)) ∈ tb := tb_at 1701 (by decide +kernel)
theorem q_1702 : (Jvm.Cond.code ({ cls := "ThinSeriesModel", name := "does", desc := "(IIII)I" } : Jvm.MethodName) prog_11_method_63_code (6 : Nat) (Option.some Jvm.ClassFile.FieldType.int)) ∈ tb := tb_at 1702 (by decide +kernel)
theorem q_1703 : (Jvm.Cond.methodLink "ThinSeriesModel" (413 : Nat) ({ cls := "ThinSeriesModel", name := "takesBack", desc := "()V" } : Jvm.MethodName)) ∈ tb := tb_at 1703 (by decide +kernel)
theorem q_1705 : (Jvm.Cond.instanceMethod ({ cls := "ThinSeriesModel", name := "takesBack", desc := "()V" } : Jvm.MethodName)) ∈ tb := tb_at 1705 (by decide +kernel)
theorem q_1706 : (Jvm.Cond.code ({ cls := "ThinSeriesModel", name := "takesBack", desc := "()V" } : Jvm.MethodName) prog_11_method_62_code (2 : Nat) (Option.none : Option Jvm.ClassFile.FieldType)) ∈ tb := tb_at 1706 (by decide +kernel)
theorem q_1707 : (Jvm.Cond.methodLink "ThinSeriesLaw" (125 : Nat) ({ cls := "ThinSeriesModel", name := "count", desc := "(I)I" } : Jvm.MethodName)) ∈ tb := tb_at 1707 (by decide +kernel)
theorem q_1708 : (Jvm.Cond.instanceMethod ({ cls := "ThinSeriesModel", name := "count", desc := "(I)I" } : Jvm.MethodName)) ∈ tb := tb_at 1708 (by decide +kernel)
theorem q_1709 : (Jvm.Cond.selects "ThinSeriesModel" ({ cls := "ThinSeriesModel", name := "count", desc := "(I)I" } : Jvm.MethodName) ({ cls := "ThinSeriesModel", name := "count", desc := "(I)I" } : Jvm.MethodName)) ∈ tb := tb_at 1709 (by decide +kernel)
theorem q_1710 : (Jvm.Cond.code ({ cls := "ThinSeriesModel", name := "count", desc := "(I)I" } : Jvm.MethodName) prog_11_method_71_code (2 : Nat) (Option.some Jvm.ClassFile.FieldType.int)) ∈ tb := tb_at 1710 (by decide +kernel)
theorem q_1711 : (Jvm.Cond.methodLink "ThinSeriesLaw" (129 : Nat) ({ cls := "ThinSeriesModel", name := "tier", desc := "(II)I" } : Jvm.MethodName)) ∈ tb := tb_at 1711 (by decide +kernel)
theorem q_1712 : (Jvm.Cond.instanceMethod ({ cls := "ThinSeriesModel", name := "tier", desc := "(II)I" } : Jvm.MethodName)) ∈ tb := tb_at 1712 (by decide +kernel)
theorem q_1713 : (Jvm.Cond.selects "ThinSeriesModel" ({ cls := "ThinSeriesModel", name := "tier", desc := "(II)I" } : Jvm.MethodName) ({ cls := "ThinSeriesModel", name := "tier", desc := "(II)I" } : Jvm.MethodName)) ∈ tb := tb_at 1713 (by decide +kernel)
theorem q_1714 : (Jvm.Cond.code ({ cls := "ThinSeriesModel", name := "tier", desc := "(II)I" } : Jvm.MethodName) prog_11_method_73_code (3 : Nat) (Option.some Jvm.ClassFile.FieldType.int)) ∈ tb := tb_at 1714 (by decide +kernel)
theorem q_1715 : (Jvm.Cond.methodLink "ThinSeriesModel" (439 : Nat) ({ cls := "ThinSeriesModel", name := "isTier", desc := "(I)Z" } : Jvm.MethodName)) ∈ tb := tb_at 1715 (by decide +kernel)
theorem q_1717 : (Jvm.Cond.instanceMethod ({ cls := "ThinSeriesModel", name := "isTier", desc := "(I)Z" } : Jvm.MethodName)) ∈ tb := tb_at 1717 (by decide +kernel)
theorem q_1718 : (Jvm.Cond.code ({ cls := "ThinSeriesModel", name := "isTier", desc := "(I)Z" } : Jvm.MethodName) prog_11_method_72_code (2 : Nat) (Option.some Jvm.ClassFile.FieldType.boolean)) ∈ tb := tb_at 1718 (by decide +kernel)
theorem q_1719 : (Jvm.Cond.methodLink "ThinSeriesLaw" (132 : Nat) ({ cls := "ThinSeriesModel", name := "used", desc := "(I)I" } : Jvm.MethodName)) ∈ tb := tb_at 1719 (by decide +kernel)
theorem q_1720 : (Jvm.Cond.instanceMethod ({ cls := "ThinSeriesModel", name := "used", desc := "(I)I" } : Jvm.MethodName)) ∈ tb := tb_at 1720 (by decide +kernel)
theorem q_1721 : (Jvm.Cond.selects "ThinSeriesModel" ({ cls := "ThinSeriesModel", name := "used", desc := "(I)I" } : Jvm.MethodName) ({ cls := "ThinSeriesModel", name := "used", desc := "(I)I" } : Jvm.MethodName)) ∈ tb := tb_at 1721 (by decide +kernel)
theorem q_1722 : (Jvm.Cond.code ({ cls := "ThinSeriesModel", name := "used", desc := "(I)I" } : Jvm.MethodName) prog_11_method_74_code (5 : Nat) (Option.some Jvm.ClassFile.FieldType.int)) ∈ tb := tb_at 1722 (by decide +kernel)
theorem q_1723 : (Jvm.Cond.methodLink "ThinSeriesLaw" (135 : Nat) ({ cls := "ThinSeriesModel", name := "of", desc := "(II)J" } : Jvm.MethodName)) ∈ tb := tb_at 1723 (by decide +kernel)
theorem q_1724 : (Jvm.Cond.instanceMethod ({ cls := "ThinSeriesModel", name := "of", desc := "(II)J" } : Jvm.MethodName)) ∈ tb := tb_at 1724 (by decide +kernel)
theorem q_1725 : (Jvm.Cond.selects "ThinSeriesModel" ({ cls := "ThinSeriesModel", name := "of", desc := "(II)J" } : Jvm.MethodName) ({ cls := "ThinSeriesModel", name := "of", desc := "(II)J" } : Jvm.MethodName)) ∈ tb := tb_at 1725 (by decide +kernel)
theorem q_1726 : (Jvm.Cond.code ({ cls := "ThinSeriesModel", name := "of", desc := "(II)J" } : Jvm.MethodName) prog_11_method_77_code (3 : Nat) (Option.some Jvm.ClassFile.FieldType.long)) ∈ tb := tb_at 1726 (by decide +kernel)
theorem q_1727 : (Jvm.Cond.methodLink "ThinSeriesModel" (448 : Nat) ({ cls := "ThinSeriesModel", name := "isSeries", desc := "(I)Z" } : Jvm.MethodName)) ∈ tb := tb_at 1727 (by decide +kernel)
theorem q_1729 : (Jvm.Cond.instanceMethod ({ cls := "ThinSeriesModel", name := "isSeries", desc := "(I)Z" } : Jvm.MethodName)) ∈ tb := tb_at 1729 (by decide +kernel)
theorem q_1730 : (Jvm.Cond.code ({ cls := "ThinSeriesModel", name := "isSeries", desc := "(I)Z" } : Jvm.MethodName) prog_11_method_75_code (2 : Nat) (Option.some Jvm.ClassFile.FieldType.boolean)) ∈ tb := tb_at 1730 (by decide +kernel)
theorem q_1731 : (Jvm.Cond.methodLink "ThinSeriesModel" (451 : Nat) ({ cls := "ThinSeriesModel", name := "allBy", desc := "(II)J" } : Jvm.MethodName)) ∈ tb := tb_at 1731 (by decide +kernel)
theorem q_1733 : (Jvm.Cond.instanceMethod ({ cls := "ThinSeriesModel", name := "allBy", desc := "(II)J" } : Jvm.MethodName)) ∈ tb := tb_at 1733 (by decide +kernel)
theorem q_1734 : (Jvm.Cond.code ({ cls := "ThinSeriesModel", name := "allBy", desc := "(II)J" } : Jvm.MethodName) prog_11_method_76_code (7 : Nat) (Option.some Jvm.ClassFile.FieldType.long)) ∈ tb := tb_at 1734 (by decide +kernel)
theorem q_1735 : (Jvm.Cond.constantLong "ThinSeriesModel" (442 : Nat) (-20000 : Int64)) ∈ tb := tb_at 1735 (by decide +kernel)
theorem q_1736 : (Jvm.Cond.methodLink "ThinSeriesModel" (444 : Nat) ({ cls := "java/lang/Math", name := "min", desc := "(JJ)J" } : Jvm.MethodName)) ∈ tb := tb_at 1736 (by decide +kernel)
theorem q_1737 : (Jvm.Cond.static ({ cls := "java/lang/Math", name := "min", desc := "(JJ)J" } : Jvm.MethodName)) ∈ tb := tb_at 1737 (by decide +kernel)
theorem q_1738 : (Jvm.Cond.code ({ cls := "java/lang/Math", name := "min", desc := "(JJ)J" } : Jvm.MethodName) prog_19_method_70_code (4 : Nat) (Option.some Jvm.ClassFile.FieldType.long)) ∈ tb := tb_at 1738 (by decide +kernel)
theorem q_1739 : (Jvm.Cond.methodLink "ThinSeriesModel" (446 : Nat) ({ cls := "java/lang/Math", name := "max", desc := "(JJ)J" } : Jvm.MethodName)) ∈ tb := tb_at 1739 (by decide +kernel)
theorem q_1740 : (Jvm.Cond.static ({ cls := "java/lang/Math", name := "max", desc := "(JJ)J" } : Jvm.MethodName)) ∈ tb := tb_at 1740 (by decide +kernel)
theorem q_1741 : (Jvm.Cond.code ({ cls := "java/lang/Math", name := "max", desc := "(JJ)J" } : Jvm.MethodName) prog_19_method_66_code (4 : Nat) (Option.some Jvm.ClassFile.FieldType.long)) ∈ tb := tb_at 1741 (by decide +kernel)
theorem q_1742 : (Jvm.Cond.methodLink "ThinSeriesLaw" (138 : Nat) ({ cls := "ThinSeriesModel", name := "seam", desc := "(II)I" } : Jvm.MethodName)) ∈ tb := tb_at 1742 (by decide +kernel)
theorem q_1743 : (Jvm.Cond.instanceMethod ({ cls := "ThinSeriesModel", name := "seam", desc := "(II)I" } : Jvm.MethodName)) ∈ tb := tb_at 1743 (by decide +kernel)
theorem q_1744 : (Jvm.Cond.selects "ThinSeriesModel" ({ cls := "ThinSeriesModel", name := "seam", desc := "(II)I" } : Jvm.MethodName) ({ cls := "ThinSeriesModel", name := "seam", desc := "(II)I" } : Jvm.MethodName)) ∈ tb := tb_at 1744 (by decide +kernel)
theorem q_1745 : (Jvm.Cond.code ({ cls := "ThinSeriesModel", name := "seam", desc := "(II)I" } : Jvm.MethodName) prog_11_method_78_code (3 : Nat) (Option.some Jvm.ClassFile.FieldType.int)) ∈ tb := tb_at 1745 (by decide +kernel)
theorem q_1746 : (Jvm.Cond.methodLink "ThinSeriesLaw" (141 : Nat) ({ cls := "ThinSeriesModel", name := "buckets", desc := "(II)I" } : Jvm.MethodName)) ∈ tb := tb_at 1746 (by decide +kernel)
theorem q_1747 : (Jvm.Cond.instanceMethod ({ cls := "ThinSeriesModel", name := "buckets", desc := "(II)I" } : Jvm.MethodName)) ∈ tb := tb_at 1747 (by decide +kernel)
theorem q_1748 : (Jvm.Cond.selects "ThinSeriesModel" ({ cls := "ThinSeriesModel", name := "buckets", desc := "(II)I" } : Jvm.MethodName) ({ cls := "ThinSeriesModel", name := "buckets", desc := "(II)I" } : Jvm.MethodName)) ∈ tb := tb_at 1748 (by decide +kernel)
theorem q_1749 : (Jvm.Cond.code ({ cls := "ThinSeriesModel", name := "buckets", desc := "(II)I" } : Jvm.MethodName) prog_11_method_79_code (3 : Nat) (Option.some Jvm.ClassFile.FieldType.int)) ∈ tb := tb_at 1749 (by decide +kernel)
theorem q_1750 : (Jvm.Cond.methodLink "ThinSeriesModel" (455 : Nat) ({ cls := "ThinSeriesModel", name := "bucketsIn", desc := "(II)I" } : Jvm.MethodName)) ∈ tb := tb_at 1750 (by decide +kernel)
theorem q_1752 : (Jvm.Cond.instanceMethod ({ cls := "ThinSeriesModel", name := "bucketsIn", desc := "(II)I" } : Jvm.MethodName)) ∈ tb := tb_at 1752 (by decide +kernel)
theorem q_1753 : (Jvm.Cond.code ({ cls := "ThinSeriesModel", name := "bucketsIn", desc := "(II)I" } : Jvm.MethodName) prog_11_method_70_code (6 : Nat) (Option.some Jvm.ClassFile.FieldType.int)) ∈ tb := tb_at 1753 (by decide +kernel)
theorem q_1754 : (Jvm.Cond.methodLink "ThinSeriesModel" (433 : Nat) ({ cls := "ThinSeriesModel", name := "tierTo", desc := "(II)I" } : Jvm.MethodName)) ∈ tb := tb_at 1754 (by decide +kernel)
theorem q_1756 : (Jvm.Cond.instanceMethod ({ cls := "ThinSeriesModel", name := "tierTo", desc := "(II)I" } : Jvm.MethodName)) ∈ tb := tb_at 1756 (by decide +kernel)
theorem q_1757 : (Jvm.Cond.code ({ cls := "ThinSeriesModel", name := "tierTo", desc := "(II)I" } : Jvm.MethodName) prog_11_method_69_code (3 : Nat) (Option.some Jvm.ClassFile.FieldType.int)) ∈ tb := tb_at 1757 (by decide +kernel)
theorem q_1758 : (Jvm.Cond.methodLink "ThinSeriesModel" (436 : Nat) ({ cls := "ThinSeriesModel", name := "tierFrom", desc := "(II)I" } : Jvm.MethodName)) ∈ tb := tb_at 1758 (by decide +kernel)
theorem q_1760 : (Jvm.Cond.instanceMethod ({ cls := "ThinSeriesModel", name := "tierFrom", desc := "(II)I" } : Jvm.MethodName)) ∈ tb := tb_at 1760 (by decide +kernel)
theorem q_1761 : (Jvm.Cond.code ({ cls := "ThinSeriesModel", name := "tierFrom", desc := "(II)I" } : Jvm.MethodName) prog_11_method_68_code (3 : Nat) (Option.some Jvm.ClassFile.FieldType.int)) ∈ tb := tb_at 1761 (by decide +kernel)
theorem q_1762 : (Jvm.Cond.methodLink "ThinSeriesLaw" (145 : Nat) ({ cls := "ThinSeriesModel", name := "bucket", desc := "(IIII)J" } : Jvm.MethodName)) ∈ tb := tb_at 1762 (by decide +kernel)
theorem q_1763 : (Jvm.Cond.instanceMethod ({ cls := "ThinSeriesModel", name := "bucket", desc := "(IIII)J" } : Jvm.MethodName)) ∈ tb := tb_at 1763 (by decide +kernel)
theorem q_1764 : (Jvm.Cond.selects "ThinSeriesModel" ({ cls := "ThinSeriesModel", name := "bucket", desc := "(IIII)J" } : Jvm.MethodName) ({ cls := "ThinSeriesModel", name := "bucket", desc := "(IIII)J" } : Jvm.MethodName)) ∈ tb := tb_at 1764 (by decide +kernel)
theorem q_1765 : (Jvm.Cond.code ({ cls := "ThinSeriesModel", name := "bucket", desc := "(IIII)J" } : Jvm.MethodName) prog_11_method_80_code (7 : Nat) (Option.some Jvm.ClassFile.FieldType.long)) ∈ tb := tb_at 1765 (by decide +kernel)
theorem q_1766 : (Jvm.Cond.methodLink "ThinSeriesModel" (458 : Nat) ({ cls := "ThinSeriesModel", name := "meanNow", desc := "()I" } : Jvm.MethodName)) ∈ tb := tb_at 1766 (by decide +kernel)
theorem q_1768 : (Jvm.Cond.instanceMethod ({ cls := "ThinSeriesModel", name := "meanNow", desc := "()I" } : Jvm.MethodName)) ∈ tb := tb_at 1768 (by decide +kernel)
theorem q_1769 : (Jvm.Cond.code ({ cls := "ThinSeriesModel", name := "meanNow", desc := "()I" } : Jvm.MethodName) prog_11_method_66_code (1 : Nat) (Option.some Jvm.ClassFile.FieldType.int)) ∈ tb := tb_at 1769 (by decide +kernel)
theorem q_1770 : (Jvm.Cond.methodLink "ThinSeriesLaw" (149 : Nat) ({ cls := "ThinSeriesModel", name := "at", desc := "(III)I" } : Jvm.MethodName)) ∈ tb := tb_at 1770 (by decide +kernel)
theorem q_1771 : (Jvm.Cond.instanceMethod ({ cls := "ThinSeriesModel", name := "at", desc := "(III)I" } : Jvm.MethodName)) ∈ tb := tb_at 1771 (by decide +kernel)
theorem q_1772 : (Jvm.Cond.selects "ThinSeriesModel" ({ cls := "ThinSeriesModel", name := "at", desc := "(III)I" } : Jvm.MethodName) ({ cls := "ThinSeriesModel", name := "at", desc := "(III)I" } : Jvm.MethodName)) ∈ tb := tb_at 1772 (by decide +kernel)
theorem q_1773 : (Jvm.Cond.code ({ cls := "ThinSeriesModel", name := "at", desc := "(III)I" } : Jvm.MethodName) prog_11_method_81_code (6 : Nat) (Option.some Jvm.ClassFile.FieldType.int)) ∈ tb := tb_at 1773 (by decide +kernel)
theorem q_1774 : (Jvm.Cond.constantLong "ThinSeriesModel" (461 : Nat) (2 : Int64)) ∈ tb := tb_at 1774 (by decide +kernel)
theorem q_1775 : (Jvm.Cond.methodLink "ThinSeriesLaw" (152 : Nat) ({ cls := "ThinSeriesModel", name := "total", desc := "(IIII)J" } : Jvm.MethodName)) ∈ tb := tb_at 1775 (by decide +kernel)
theorem q_1776 : (Jvm.Cond.instanceMethod ({ cls := "ThinSeriesModel", name := "total", desc := "(IIII)J" } : Jvm.MethodName)) ∈ tb := tb_at 1776 (by decide +kernel)
theorem q_1777 : (Jvm.Cond.selects "ThinSeriesModel" ({ cls := "ThinSeriesModel", name := "total", desc := "(IIII)J" } : Jvm.MethodName) ({ cls := "ThinSeriesModel", name := "total", desc := "(IIII)J" } : Jvm.MethodName)) ∈ tb := tb_at 1777 (by decide +kernel)
theorem q_1778 : (Jvm.Cond.code ({ cls := "ThinSeriesModel", name := "total", desc := "(IIII)J" } : Jvm.MethodName) prog_11_method_85_code (5 : Nat) (Option.some Jvm.ClassFile.FieldType.long)) ∈ tb := tb_at 1778 (by decide +kernel)
theorem q_1779 : (Jvm.Cond.constantLong "ThinSeriesModel" (490 : Nat) (6 : Int64)) ∈ tb := tb_at 1779 (by decide +kernel)
theorem q_1780 : (Jvm.Cond.methodLink "ThinSeriesModel" (492 : Nat) ({ cls := "ThinSeriesModel", name := "totals", desc := "(III)V" } : Jvm.MethodName)) ∈ tb := tb_at 1780 (by decide +kernel)
theorem q_1782 : (Jvm.Cond.instanceMethod ({ cls := "ThinSeriesModel", name := "totals", desc := "(III)V" } : Jvm.MethodName)) ∈ tb := tb_at 1782 (by decide +kernel)
theorem q_1783 : (Jvm.Cond.code ({ cls := "ThinSeriesModel", name := "totals", desc := "(III)V" } : Jvm.MethodName) prog_11_method_84_code (6 : Nat) (Option.none : Option Jvm.ClassFile.FieldType)) ∈ tb := tb_at 1783 (by decide +kernel)
theorem q_1784 : (Jvm.Cond.methodLink "ThinSeriesModel" (478 : Nat) ({ cls := "ThinSeriesModel", name := "clears", desc := "()V" } : Jvm.MethodName)) ∈ tb := tb_at 1784 (by decide +kernel)
theorem q_1786 : (Jvm.Cond.instanceMethod ({ cls := "ThinSeriesModel", name := "clears", desc := "()V" } : Jvm.MethodName)) ∈ tb := tb_at 1786 (by decide +kernel)
theorem q_1787 : (Jvm.Cond.code ({ cls := "ThinSeriesModel", name := "clears", desc := "()V" } : Jvm.MethodName) prog_11_method_82_code (1 : Nat) (Option.none : Option Jvm.ClassFile.FieldType)) ∈ tb := tb_at 1787 (by decide +kernel)
theorem q_1788 : (Jvm.Cond.methodLink "ThinSeriesModel" (487 : Nat) ({ cls := "ThinSeriesModel", name := "adds", desc := "()V" } : Jvm.MethodName)) ∈ tb := tb_at 1788 (by decide +kernel)
theorem q_1790 : (Jvm.Cond.instanceMethod ({ cls := "ThinSeriesModel", name := "adds", desc := "()V" } : Jvm.MethodName)) ∈ tb := tb_at 1790 (by decide +kernel)
theorem q_1791 : (Jvm.Cond.code ({ cls := "ThinSeriesModel", name := "adds", desc := "()V" } : Jvm.MethodName) prog_11_method_83_code (1 : Nat) (Option.none : Option Jvm.ClassFile.FieldType)) ∈ tb := tb_at 1791 (by decide +kernel)
theorem q_1792 : (Jvm.Cond.methodLink "ThinSeriesLaw" (156 : Nat) ({ cls := "ThinSeriesModel", name := "gap", desc := "(IIIZ)I" } : Jvm.MethodName)) ∈ tb := tb_at 1792 (by decide +kernel)
theorem q_1793 : (Jvm.Cond.instanceMethod ({ cls := "ThinSeriesModel", name := "gap", desc := "(IIIZ)I" } : Jvm.MethodName)) ∈ tb := tb_at 1793 (by decide +kernel)
theorem q_1794 : (Jvm.Cond.selects "ThinSeriesModel" ({ cls := "ThinSeriesModel", name := "gap", desc := "(IIIZ)I" } : Jvm.MethodName) ({ cls := "ThinSeriesModel", name := "gap", desc := "(IIIZ)I" } : Jvm.MethodName)) ∈ tb := tb_at 1794 (by decide +kernel)
theorem q_1795 : (Jvm.Cond.code ({ cls := "ThinSeriesModel", name := "gap", desc := "(IIIZ)I" } : Jvm.MethodName) prog_11_method_86_code (10 : Nat) (Option.some Jvm.ClassFile.FieldType.int)) ∈ tb := tb_at 1795 (by decide +kernel)
theorem q_1796 : (Jvm.Cond.methodLink "ThinSeriesLaw" (159 : Nat) ({ cls := "ThinSeriesModel", name := "bar", desc := "(IIII)J" } : Jvm.MethodName)) ∈ tb := tb_at 1796 (by decide +kernel)
theorem q_1797 : (Jvm.Cond.instanceMethod ({ cls := "ThinSeriesModel", name := "bar", desc := "(IIII)J" } : Jvm.MethodName)) ∈ tb := tb_at 1797 (by decide +kernel)
theorem q_1798 : (Jvm.Cond.selects "ThinSeriesModel" ({ cls := "ThinSeriesModel", name := "bar", desc := "(IIII)J" } : Jvm.MethodName) ({ cls := "ThinSeriesModel", name := "bar", desc := "(IIII)J" } : Jvm.MethodName)) ∈ tb := tb_at 1798 (by decide +kernel)
theorem q_1799 : (Jvm.Cond.code ({ cls := "ThinSeriesModel", name := "bar", desc := "(IIII)J" } : Jvm.MethodName) prog_11_method_87_code (8 : Nat) (Option.some Jvm.ClassFile.FieldType.long)) ∈ tb := tb_at 1799 (by decide +kernel)
theorem q_1800 : (Jvm.Cond.constantLong "ThinSeriesModel" (495 : Nat) (3 : Int64)) ∈ tb := tb_at 1800 (by decide +kernel)
theorem q_1801 : (Jvm.Cond.methodLink "ThinSeriesLaw" (162 : Nat) ({ cls := "ThinSeriesModel", name := "alarms", desc := "(II)I" } : Jvm.MethodName)) ∈ tb := tb_at 1801 (by decide +kernel)
theorem q_1802 : (Jvm.Cond.instanceMethod ({ cls := "ThinSeriesModel", name := "alarms", desc := "(II)I" } : Jvm.MethodName)) ∈ tb := tb_at 1802 (by decide +kernel)
theorem q_1803 : (Jvm.Cond.selects "ThinSeriesModel" ({ cls := "ThinSeriesModel", name := "alarms", desc := "(II)I" } : Jvm.MethodName) ({ cls := "ThinSeriesModel", name := "alarms", desc := "(II)I" } : Jvm.MethodName)) ∈ tb := tb_at 1803 (by decide +kernel)
theorem q_1804 : (Jvm.Cond.code ({ cls := "ThinSeriesModel", name := "alarms", desc := "(II)I" } : Jvm.MethodName) prog_11_method_91_code (3 : Nat) (Option.some Jvm.ClassFile.FieldType.int)) ∈ tb := tb_at 1804 (by decide +kernel)
theorem q_1805 : (Jvm.Cond.methodLink "ThinSeriesModel" (517 : Nat) ({ cls := "ThinSeriesModel", name := "tellAlarms", desc := "(I)V" } : Jvm.MethodName)) ∈ tb := tb_at 1805 (by decide +kernel)
theorem q_1807 : (Jvm.Cond.instanceMethod ({ cls := "ThinSeriesModel", name := "tellAlarms", desc := "(I)V" } : Jvm.MethodName)) ∈ tb := tb_at 1807 (by decide +kernel)
theorem q_1808 : (Jvm.Cond.code ({ cls := "ThinSeriesModel", name := "tellAlarms", desc := "(I)V" } : Jvm.MethodName) prog_11_method_90_code (8 : Nat) (Option.none : Option Jvm.ClassFile.FieldType)) ∈ tb := tb_at 1808 (by decide +kernel)
theorem q_1809 : (Jvm.Cond.methodLink "ThinSeriesModel" (513 : Nat) ({ cls := "ThinSeriesModel", name := "isAlarmed", desc := "()Z" } : Jvm.MethodName)) ∈ tb := tb_at 1809 (by decide +kernel)
theorem q_1811 : (Jvm.Cond.instanceMethod ({ cls := "ThinSeriesModel", name := "isAlarmed", desc := "()Z" } : Jvm.MethodName)) ∈ tb := tb_at 1811 (by decide +kernel)
theorem q_1812 : (Jvm.Cond.code ({ cls := "ThinSeriesModel", name := "isAlarmed", desc := "()Z" } : Jvm.MethodName) prog_11_method_89_code (7 : Nat) (Option.some Jvm.ClassFile.FieldType.boolean)) ∈ tb := tb_at 1812 (by decide +kernel)
theorem q_1813 : (Jvm.Cond.methodLink "ThinSeriesModel" (497 : Nat) ({ cls := "ThinSeriesModel", name := "fieldNow", desc := "(I)J" } : Jvm.MethodName)) ∈ tb := tb_at 1813 (by decide +kernel)
theorem q_1815 : (Jvm.Cond.instanceMethod ({ cls := "ThinSeriesModel", name := "fieldNow", desc := "(I)J" } : Jvm.MethodName)) ∈ tb := tb_at 1815 (by decide +kernel)
theorem q_1816 : (Jvm.Cond.code ({ cls := "ThinSeriesModel", name := "fieldNow", desc := "(I)J" } : Jvm.MethodName) prog_11_method_88_code (2 : Nat) (Option.some Jvm.ClassFile.FieldType.long)) ∈ tb := tb_at 1816 (by decide +kernel)
theorem q_1817 : (Jvm.Cond.methodLink "ThinSeriesLaw" (165 : Nat) ({ cls := "ThinSeriesModel", name := "would", desc := "(III)I" } : Jvm.MethodName)) ∈ tb := tb_at 1817 (by decide +kernel)
theorem q_1818 : (Jvm.Cond.instanceMethod ({ cls := "ThinSeriesModel", name := "would", desc := "(III)I" } : Jvm.MethodName)) ∈ tb := tb_at 1818 (by decide +kernel)
theorem q_1819 : (Jvm.Cond.selects "ThinSeriesModel" ({ cls := "ThinSeriesModel", name := "would", desc := "(III)I" } : Jvm.MethodName) ({ cls := "ThinSeriesModel", name := "would", desc := "(III)I" } : Jvm.MethodName)) ∈ tb := tb_at 1819 (by decide +kernel)
theorem q_1820 : (Jvm.Cond.code ({ cls := "ThinSeriesModel", name := "would", desc := "(III)I" } : Jvm.MethodName) prog_11_method_94_code (5 : Nat) (Option.some Jvm.ClassFile.FieldType.int)) ∈ tb := tb_at 1820 (by decide +kernel)
theorem q_1821 : (Jvm.Cond.methodLink "ThinSeriesModel" (520 : Nat) ({ cls := "ThinSeriesModel", name := "bucketsBy", desc := "(II)I" } : Jvm.MethodName)) ∈ tb := tb_at 1821 (by decide +kernel)
theorem q_1823 : (Jvm.Cond.instanceMethod ({ cls := "ThinSeriesModel", name := "bucketsBy", desc := "(II)I" } : Jvm.MethodName)) ∈ tb := tb_at 1823 (by decide +kernel)
theorem q_1824 : (Jvm.Cond.code ({ cls := "ThinSeriesModel", name := "bucketsBy", desc := "(II)I" } : Jvm.MethodName) prog_11_method_92_code (7 : Nat) (Option.some Jvm.ClassFile.FieldType.int)) ∈ tb := tb_at 1824 (by decide +kernel)
theorem q_1825 : (Jvm.Cond.methodLink "ThinSeriesModel" (523 : Nat) ({ cls := "ThinSeriesModel", name := "movedBy", desc := "(II)I" } : Jvm.MethodName)) ∈ tb := tb_at 1825 (by decide +kernel)
theorem q_1827 : (Jvm.Cond.instanceMethod ({ cls := "ThinSeriesModel", name := "movedBy", desc := "(II)I" } : Jvm.MethodName)) ∈ tb := tb_at 1827 (by decide +kernel)
theorem q_1828 : (Jvm.Cond.code ({ cls := "ThinSeriesModel", name := "movedBy", desc := "(II)I" } : Jvm.MethodName) prog_11_method_93_code (6 : Nat) (Option.some Jvm.ClassFile.FieldType.int)) ∈ tb := tb_at 1828 (by decide +kernel)
theorem q_1829 : (Jvm.Cond.methodLink "ThinSeriesLaw" (168 : Nat) ({ cls := "ThinSeriesModel", name := "until", desc := "(III)I" } : Jvm.MethodName)) ∈ tb := tb_at 1829 (by decide +kernel)
theorem q_1830 : (Jvm.Cond.instanceMethod ({ cls := "ThinSeriesModel", name := "until", desc := "(III)I" } : Jvm.MethodName)) ∈ tb := tb_at 1830 (by decide +kernel)
theorem q_1831 : (Jvm.Cond.selects "ThinSeriesModel" ({ cls := "ThinSeriesModel", name := "until", desc := "(III)I" } : Jvm.MethodName) ({ cls := "ThinSeriesModel", name := "until", desc := "(III)I" } : Jvm.MethodName)) ∈ tb := tb_at 1831 (by decide +kernel)
theorem q_1832 : (Jvm.Cond.code ({ cls := "ThinSeriesModel", name := "until", desc := "(III)I" } : Jvm.MethodName) prog_11_method_95_code (7 : Nat) (Option.some Jvm.ClassFile.FieldType.int)) ∈ tb := tb_at 1832 (by decide +kernel)
theorem q_1833 : (Jvm.Cond.constant "ThinSeriesModel" (526 : Nat) (1000001 : Int32)) ∈ tb := tb_at 1833 (by decide +kernel)
theorem q_1834 : (Jvm.Cond.methodLink "ThinSeriesLaw" (171 : Nat) ({ cls := "ThinSeriesModel", name := "trend", desc := "(III)J" } : Jvm.MethodName)) ∈ tb := tb_at 1834 (by decide +kernel)
theorem q_1835 : (Jvm.Cond.instanceMethod ({ cls := "ThinSeriesModel", name := "trend", desc := "(III)J" } : Jvm.MethodName)) ∈ tb := tb_at 1835 (by decide +kernel)
theorem q_1836 : (Jvm.Cond.selects "ThinSeriesModel" ({ cls := "ThinSeriesModel", name := "trend", desc := "(III)J" } : Jvm.MethodName) ({ cls := "ThinSeriesModel", name := "trend", desc := "(III)J" } : Jvm.MethodName)) ∈ tb := tb_at 1836 (by decide +kernel)
theorem q_1837 : (Jvm.Cond.code ({ cls := "ThinSeriesModel", name := "trend", desc := "(III)J" } : Jvm.MethodName) prog_11_method_96_code (12 : Nat) (Option.some Jvm.ClassFile.FieldType.long)) ∈ tb := tb_at 1837 (by decide +kernel)
theorem q_1838 : (Jvm.Cond.methodLink "ThinSeriesLaw" (174 : Nat) ({ cls := "ThinSeriesModel", name := "both", desc := "(III)I" } : Jvm.MethodName)) ∈ tb := tb_at 1838 (by decide +kernel)
theorem q_1839 : (Jvm.Cond.instanceMethod ({ cls := "ThinSeriesModel", name := "both", desc := "(III)I" } : Jvm.MethodName)) ∈ tb := tb_at 1839 (by decide +kernel)
theorem q_1840 : (Jvm.Cond.selects "ThinSeriesModel" ({ cls := "ThinSeriesModel", name := "both", desc := "(III)I" } : Jvm.MethodName) ({ cls := "ThinSeriesModel", name := "both", desc := "(III)I" } : Jvm.MethodName)) ∈ tb := tb_at 1840 (by decide +kernel)
theorem q_1841 : (Jvm.Cond.code ({ cls := "ThinSeriesModel", name := "both", desc := "(III)I" } : Jvm.MethodName) prog_11_method_98_code (11 : Nat) (Option.some Jvm.ClassFile.FieldType.int)) ∈ tb := tb_at 1841 (by decide +kernel)
theorem q_1842 : (Jvm.Cond.methodLink "ThinSeriesModel" (527 : Nat) ({ cls := "ThinSeriesModel", name := "meanOf", desc := "(III)I" } : Jvm.MethodName)) ∈ tb := tb_at 1842 (by decide +kernel)
theorem q_1844 : (Jvm.Cond.instanceMethod ({ cls := "ThinSeriesModel", name := "meanOf", desc := "(III)I" } : Jvm.MethodName)) ∈ tb := tb_at 1844 (by decide +kernel)
theorem q_1845 : (Jvm.Cond.code ({ cls := "ThinSeriesModel", name := "meanOf", desc := "(III)I" } : Jvm.MethodName) prog_11_method_97_code (5 : Nat) (Option.some Jvm.ClassFile.FieldType.int)) ∈ tb := tb_at 1845 (by decide +kernel)
theorem q_1846 : (Jvm.Cond.methodLink "ThinSeriesModel" (530 : Nat) ({ cls := "java/lang/Math", name := "abs", desc := "(I)I" } : Jvm.MethodName)) ∈ tb := tb_at 1846 (by decide +kernel)
theorem q_1862 : (Jvm.Cond.fieldLink "java/lang/String" (15 : Nat) "java/lang/String" "coder" "B") ∈ tb := tb_at 1862 (by decide +kernel)
theorem q_1863 : (Jvm.Cond.fieldLink "java/lang/String" (9 : Nat) "java/lang/String" "value" "[B") ∈ tb := tb_at 1863 (by decide +kernel)
theorem pf_0_0 : parseFieldDescriptor (TX0 0).2.2.1 = some (.array .int) := by decide +kernel
theorem pf_0_1 : parseFieldDescriptor (TX0 1).2.2.1 = some (.array .int) := by decide +kernel
theorem pf_0_2 : parseFieldDescriptor (TX0 2).2.2.1 = some .int := by decide +kernel
theorem pf_1_0 : parseFieldDescriptor (TX1 0).2.2.1 = some (.object "ThinSeries$Tokens") := by decide +kernel
theorem pf_1_1 : parseFieldDescriptor (TX1 1).2.2.1 = some (.array .int) := by decide +kernel
theorem pf_1_2 : parseFieldDescriptor (TX1 2).2.2.1 = some (.array .int) := by decide +kernel
theorem pf_1_3 : parseFieldDescriptor (TX1 3).2.2.1 = some (.array .int) := by decide +kernel
theorem pf_1_4 : parseFieldDescriptor (TX1 4).2.2.1 = some (.array .int) := by decide +kernel
theorem pf_1_5 : parseFieldDescriptor (TX1 5).2.2.1 = some .int := by decide +kernel
theorem pf_2_0 : parseFieldDescriptor (TX2 0).2.2.1 = some (.array .int) := by decide +kernel
theorem pf_2_1 : parseFieldDescriptor (TX2 1).2.2.1 = some (.array .int) := by decide +kernel
theorem pf_2_2 : parseFieldDescriptor (TX2 2).2.2.1 = some (.object "ThinSeries$Alarm") := by decide +kernel
theorem pf_2_3 : parseFieldDescriptor (TX2 3).2.2.1 = some .int := by decide +kernel
theorem pf_2_4 : parseFieldDescriptor (TX2 4).2.2.1 = some .int := by decide +kernel
theorem pf_3_0 : parseFieldDescriptor (TX3 0).2.2.1 = some (.object "ThinSeries$Tokens") := by decide +kernel
theorem pf_4_0 : parseFieldDescriptor (TX4 0).2.2.1 = some (.array .int) := by decide +kernel
theorem pf_4_1 : parseFieldDescriptor (TX4 1).2.2.1 = some (.array .int) := by decide +kernel
theorem pf_4_2 : parseFieldDescriptor (TX4 2).2.2.1 = some .int := by decide +kernel
theorem pf_5_0 : parseFieldDescriptor (TX5 0).2.2.1 = some (.object "ThinSeries$Plan") := by decide +kernel
theorem pf_5_1 : parseFieldDescriptor (TX5 1).2.2.1 = some (.array .int) := by decide +kernel
theorem pf_5_2 : parseFieldDescriptor (TX5 2).2.2.1 = some (.array .int) := by decide +kernel
theorem pf_5_3 : parseFieldDescriptor (TX5 3).2.2.1 = some (.array .int) := by decide +kernel
theorem pf_5_4 : parseFieldDescriptor (TX5 4).2.2.1 = some (.array .int) := by decide +kernel
theorem pf_5_5 : parseFieldDescriptor (TX5 5).2.2.1 = some (.array .long) := by decide +kernel
theorem pf_5_6 : parseFieldDescriptor (TX5 6).2.2.1 = some (.array .int) := by decide +kernel
theorem pf_5_7 : parseFieldDescriptor (TX5 7).2.2.1 = some (.array .int) := by decide +kernel
theorem pf_5_8 : parseFieldDescriptor (TX5 8).2.2.1 = some .int := by decide +kernel
theorem pf_5_9 : parseFieldDescriptor (TX5 9).2.2.1 = some .int := by decide +kernel
theorem pf_5_10 : parseFieldDescriptor (TX5 10).2.2.1 = some .int := by decide +kernel
theorem pf_6_0 : parseFieldDescriptor (TX6 0).2.2.1 = some .int := by decide +kernel
theorem pf_6_1 : parseFieldDescriptor (TX6 1).2.2.1 = some .int := by decide +kernel
theorem pf_6_2 : parseFieldDescriptor (TX6 2).2.2.1 = some .long := by decide +kernel
theorem pf_6_3 : parseFieldDescriptor (TX6 3).2.2.1 = some .int := by decide +kernel
theorem pf_6_4 : parseFieldDescriptor (TX6 4).2.2.1 = some .int := by decide +kernel
theorem pf_7_0 : parseFieldDescriptor (TX7 0).2.2.1 = some (.array .byte) := by decide +kernel
theorem pf_7_1 : parseFieldDescriptor (TX7 1).2.2.1 = some .int := by decide +kernel
theorem pf_7_2 : parseFieldDescriptor (TX7 2).2.2.1 = some .int := by decide +kernel
theorem pf_7_3 : parseFieldDescriptor (TX7 3).2.2.1 = some .int := by decide +kernel
theorem pf_7_4 : parseFieldDescriptor (TX7 4).2.2.1 = some .int := by decide +kernel
theorem pf_7_5 : parseFieldDescriptor (TX7 5).2.2.1 = some .int := by decide +kernel
theorem pf_7_6 : parseFieldDescriptor (TX7 6).2.2.1 = some .int := by decide +kernel
theorem pf_7_7 : parseFieldDescriptor (TX7 7).2.2.1 = some .int := by decide +kernel
theorem pf_7_8 : parseFieldDescriptor (TX7 8).2.2.1 = some .int := by decide +kernel
theorem pf_8_0 : parseFieldDescriptor (TX8 0).2.2.1 = some (.array .byte) := by decide +kernel
theorem pf_8_1 : parseFieldDescriptor (TX8 1).2.2.1 = some (.object "ThinSeries$Tokens") := by decide +kernel
theorem pf_8_2 : parseFieldDescriptor (TX8 2).2.2.1 = some (.object "ThinSeries$PlanReader") := by decide +kernel
theorem pf_8_3 : parseFieldDescriptor (TX8 3).2.2.1 = some (.object "ThinSeries$BatchReader") := by decide +kernel
theorem pf_8_4 : parseFieldDescriptor (TX8 4).2.2.1 = some (.object "ThinSeries$Roster") := by decide +kernel
theorem pf_8_5 : parseFieldDescriptor (TX8 5).2.2.1 = some (.object "ThinSeries$Roster") := by decide +kernel
theorem pf_8_6 : parseFieldDescriptor (TX8 6).2.2.1 = some (.array (.object "ThinSeries$Series")) := by decide +kernel
theorem pf_8_7 : parseFieldDescriptor (TX8 7).2.2.1 = some (.object "ThinSeries$Tally") := by decide +kernel
theorem pf_8_8 : parseFieldDescriptor (TX8 8).2.2.1 = some (.object "ThinSeries$Tally") := by decide +kernel
theorem pf_8_9 : parseFieldDescriptor (TX8 9).2.2.1 = some (.array .int) := by decide +kernel
theorem pf_8_10 : parseFieldDescriptor (TX8 10).2.2.1 = some (.array .int) := by decide +kernel
theorem pf_8_11 : parseFieldDescriptor (TX8 11).2.2.1 = some (.array .int) := by decide +kernel
theorem pf_8_12 : parseFieldDescriptor (TX8 12).2.2.1 = some (.object "ThinSeries$Plan") := by decide +kernel
theorem pf_8_13 : parseFieldDescriptor (TX8 13).2.2.1 = some (.object "ThinSeries$Plan") := by decide +kernel
theorem pf_8_14 : parseFieldDescriptor (TX8 14).2.2.1 = some .int := by decide +kernel
theorem pf_8_15 : parseFieldDescriptor (TX8 15).2.2.1 = some .int := by decide +kernel
theorem pf_8_16 : parseFieldDescriptor (TX8 16).2.2.1 = some .int := by decide +kernel
theorem pf_8_17 : parseFieldDescriptor (TX8 17).2.2.1 = some .int := by decide +kernel
theorem pf_8_18 : parseFieldDescriptor (TX8 18).2.2.1 = some .int := by decide +kernel
theorem pf_9_0 : parseFieldDescriptor (TX9 0).2.2.1 = some (.array (.object "java/lang/String")) := by decide +kernel
theorem pf_9_1 : parseFieldDescriptor (TX9 1).2.2.1 = some (.array (.object "java/lang/String")) := by decide +kernel
theorem pf_9_2 : parseFieldDescriptor (TX9 2).2.2.1 = some (.array (.object "java/lang/String")) := by decide +kernel
theorem pf_9_3 : parseFieldDescriptor (TX9 3).2.2.1 = some .int := by decide +kernel
theorem pf_9_4 : parseFieldDescriptor (TX9 4).2.2.1 = some (.array .int) := by decide +kernel
theorem pf_9_5 : parseFieldDescriptor (TX9 5).2.2.1 = some (.array .int) := by decide +kernel
theorem pf_9_6 : parseFieldDescriptor (TX9 6).2.2.1 = some (.array .int) := by decide +kernel
theorem pf_9_7 : parseFieldDescriptor (TX9 7).2.2.1 = some .int := by decide +kernel
theorem pf_9_8 : parseFieldDescriptor (TX9 8).2.2.1 = some .int := by decide +kernel
theorem pf_9_9 : parseFieldDescriptor (TX9 9).2.2.1 = some .int := by decide +kernel
theorem pf_9_10 : parseFieldDescriptor (TX9 10).2.2.1 = some (.array .boolean) := by decide +kernel
theorem pf_9_11 : parseFieldDescriptor (TX9 11).2.2.1 = some (.array .int) := by decide +kernel
theorem pf_9_12 : parseFieldDescriptor (TX9 12).2.2.1 = some (.array .int) := by decide +kernel
theorem pf_9_13 : parseFieldDescriptor (TX9 13).2.2.1 = some (.array .int) := by decide +kernel
theorem pf_9_14 : parseFieldDescriptor (TX9 14).2.2.1 = some (.array .int) := by decide +kernel
theorem pf_9_15 : parseFieldDescriptor (TX9 15).2.2.1 = some .int := by decide +kernel
theorem pf_9_16 : parseFieldDescriptor (TX9 16).2.2.1 = some .int := by decide +kernel
theorem pf_9_17 : parseFieldDescriptor (TX9 17).2.2.1 = some .int := by decide +kernel
theorem pf_9_18 : parseFieldDescriptor (TX9 18).2.2.1 = some .int := by decide +kernel
theorem pf_9_19 : parseFieldDescriptor (TX9 19).2.2.1 = some (.array .int) := by decide +kernel
theorem pf_9_20 : parseFieldDescriptor (TX9 20).2.2.1 = some (.array .int) := by decide +kernel
theorem pf_9_21 : parseFieldDescriptor (TX9 21).2.2.1 = some (.array .int) := by decide +kernel
theorem pf_9_22 : parseFieldDescriptor (TX9 22).2.2.1 = some .int := by decide +kernel
theorem pf_9_23 : parseFieldDescriptor (TX9 23).2.2.1 = some (.array .int) := by decide +kernel
theorem pf_9_24 : parseFieldDescriptor (TX9 24).2.2.1 = some .int := by decide +kernel
theorem pf_9_25 : parseFieldDescriptor (TX9 25).2.2.1 = some .int := by decide +kernel
theorem pf_9_26 : parseFieldDescriptor (TX9 26).2.2.1 = some .int := by decide +kernel
theorem pf_9_27 : parseFieldDescriptor (TX9 27).2.2.1 = some .int := by decide +kernel
theorem pf_9_28 : parseFieldDescriptor (TX9 28).2.2.1 = some .int := by decide +kernel
theorem pf_9_29 : parseFieldDescriptor (TX9 29).2.2.1 = some .int := by decide +kernel
theorem pf_9_30 : parseFieldDescriptor (TX9 30).2.2.1 = some .int := by decide +kernel
theorem pf_9_31 : parseFieldDescriptor (TX9 31).2.2.1 = some .int := by decide +kernel
theorem pf_9_32 : parseFieldDescriptor (TX9 32).2.2.1 = some .int := by decide +kernel
theorem pf_9_33 : parseFieldDescriptor (TX9 33).2.2.1 = some .int := by decide +kernel
theorem pf_9_34 : parseFieldDescriptor (TX9 34).2.2.1 = some (.array .int) := by decide +kernel
theorem pf_9_35 : parseFieldDescriptor (TX9 35).2.2.1 = some (.array .int) := by decide +kernel
theorem pf_9_36 : parseFieldDescriptor (TX9 36).2.2.1 = some (.array .int) := by decide +kernel
theorem pf_9_37 : parseFieldDescriptor (TX9 37).2.2.1 = some .int := by decide +kernel
theorem pf_9_38 : parseFieldDescriptor (TX9 38).2.2.1 = some .int := by decide +kernel
theorem pf_9_39 : parseFieldDescriptor (TX9 39).2.2.1 = some .int := by decide +kernel
theorem pf_9_40 : parseFieldDescriptor (TX9 40).2.2.1 = some .int := by decide +kernel
theorem pf_9_41 : parseFieldDescriptor (TX9 41).2.2.1 = some .int := by decide +kernel
theorem pf_9_42 : parseFieldDescriptor (TX9 42).2.2.1 = some .int := by decide +kernel
theorem pf_9_43 : parseFieldDescriptor (TX9 43).2.2.1 = some .int := by decide +kernel
theorem pf_9_44 : parseFieldDescriptor (TX9 44).2.2.1 = some (.array .int) := by decide +kernel
theorem pf_9_45 : parseFieldDescriptor (TX9 45).2.2.1 = some .int := by decide +kernel
theorem pf_9_46 : parseFieldDescriptor (TX9 46).2.2.1 = some (.array .int) := by decide +kernel
theorem pf_9_47 : parseFieldDescriptor (TX9 47).2.2.1 = some (.array .int) := by decide +kernel
theorem pf_9_48 : parseFieldDescriptor (TX9 48).2.2.1 = some (.array .int) := by decide +kernel
theorem pf_9_49 : parseFieldDescriptor (TX9 49).2.2.1 = some (.array .boolean) := by decide +kernel
theorem pf_9_50 : parseFieldDescriptor (TX9 50).2.2.1 = some (.array .int) := by decide +kernel
theorem pf_9_51 : parseFieldDescriptor (TX9 51).2.2.1 = some .int := by decide +kernel
theorem pf_9_52 : parseFieldDescriptor (TX9 52).2.2.1 = some .int := by decide +kernel
theorem pf_9_53 : parseFieldDescriptor (TX9 53).2.2.1 = some .int := by decide +kernel
theorem pf_9_54 : parseFieldDescriptor (TX9 54).2.2.1 = some .int := by decide +kernel
theorem pf_9_55 : parseFieldDescriptor (TX9 55).2.2.1 = some .int := by decide +kernel
theorem pf_9_56 : parseFieldDescriptor (TX9 56).2.2.1 = some .long := by decide +kernel
theorem pf_9_57 : parseFieldDescriptor (TX9 57).2.2.1 = some .long := by decide +kernel
theorem pf_9_58 : parseFieldDescriptor (TX9 58).2.2.1 = some .int := by decide +kernel
theorem pf_9_59 : parseFieldDescriptor (TX9 59).2.2.1 = some .int := by decide +kernel
theorem pf_9_60 : parseFieldDescriptor (TX9 60).2.2.1 = some .int := by decide +kernel
theorem pf_9_61 : parseFieldDescriptor (TX9 61).2.2.1 = some .int := by decide +kernel
theorem pf_9_62 : parseFieldDescriptor (TX9 62).2.2.1 = some .int := by decide +kernel
theorem pf_9_63 : parseFieldDescriptor (TX9 63).2.2.1 = some .int := by decide +kernel
theorem pf_9_64 : parseFieldDescriptor (TX9 64).2.2.1 = some (.array .boolean) := by decide +kernel
theorem pf_9_65 : parseFieldDescriptor (TX9 65).2.2.1 = some .int := by decide +kernel
theorem pf_9_66 : parseFieldDescriptor (TX9 66).2.2.1 = some .int := by decide +kernel
theorem pf_9_67 : parseFieldDescriptor (TX9 67).2.2.1 = some .int := by decide +kernel
theorem pf_9_68 : parseFieldDescriptor (TX9 68).2.2.1 = some .int := by decide +kernel
theorem cf_X8_init : CFI yX8_init cX8_init 1 0 := ⟨by decide, by decide +kernel, ⟨by decide +kernel, by decide +kernel⟩, rfl, q_120, q_94, q_121⟩
theorem cf_X8_alarms : CFV yX8_alarms cX8_alarms 4 2 (some .int) := ⟨by decide, by decide +kernel, ⟨by decide +kernel, by decide +kernel⟩, q_1133, q_1134, q_94, q_1135⟩
theorem cf_X8_allLinesWouldGo : CFV yX8_allLinesWouldGo cX8_allLinesWouldGo 5 0 (some .boolean) := ⟨by decide, by decide +kernel, ⟨by decide +kernel, by decide +kernel⟩, q_949, q_26, q_94, q_950⟩
theorem cf_X8_appendToTape : CFV yX8_appendToTape cX8_appendToTape 3 1 none := ⟨by decide, by decide +kernel, ⟨by decide +kernel, by decide +kernel⟩, q_376, q_0, q_94, q_377⟩
theorem cf_X8_at : CFV yX8_at cX8_at 7 3 (some .int) := ⟨by decide, by decide +kernel, ⟨by decide +kernel, by decide +kernel⟩, q_1076, q_1077, q_94, q_1078⟩
theorem cf_X8_bar : CFV yX8_bar cX8_bar 8 4 (some .long) := ⟨by decide, by decide +kernel, ⟨by decide +kernel, by decide +kernel⟩, q_1119, q_1120, q_94, q_1121⟩
theorem cf_X8_batch : CFV yX8_batch cX8_batch 4 1 (some .int) := ⟨by decide, by decide +kernel, ⟨by decide +kernel, by decide +kernel⟩, q_921, q_922, q_94, q_923⟩
theorem cf_X8_both : CFV yX8_both cX8_both 6 3 (some .int) := ⟨by decide, by decide +kernel, ⟨by decide +kernel, by decide +kernel⟩, q_1199, q_1200, q_94, q_1201⟩
theorem cf_X8_bring : CFV yX8_bring cX8_bring 5 2 (some (.object "ThinSeries$Series")) := ⟨by decide, by decide +kernel, ⟨by decide +kernel, by decide +kernel⟩, q_492, q_7, q_94, q_493⟩
theorem cf_X8_bucket : CFV yX8_bucket cX8_bucket 7 4 (some .long) := ⟨by decide, by decide +kernel, ⟨by decide +kernel, by decide +kernel⟩, q_1054, q_1055, q_94, q_1056⟩
theorem cf_X8_buckets : CFV yX8_buckets cX8_buckets 4 2 (some .int) := ⟨by decide, by decide +kernel, ⟨by decide +kernel, by decide +kernel⟩, q_1039, q_1040, q_94, q_1041⟩
theorem cf_X8_carryOut : CFV yX8_carryOut cX8_carryOut 4 1 none := ⟨by decide, by decide +kernel, ⟨by decide +kernel, by decide +kernel⟩, q_957, q_27, q_94, q_958⟩
theorem cf_X8_count : CFV yX8_count cX8_count 2 1 (some .int) := ⟨by decide, by decide +kernel, ⟨by decide +kernel, by decide +kernel⟩, q_990, q_991, q_94, q_992⟩
theorem cf_X8_drop : CFV yX8_drop cX8_drop 2 1 (some .int) := ⟨by decide, by decide +kernel, ⟨by decide +kernel, by decide +kernel⟩, q_579, q_580, q_94, q_581⟩
theorem cf_X8_explain : CFV yX8_explain cX8_explain 5 4 none := ⟨by decide, by decide +kernel, ⟨by decide +kernel, by decide +kernel⟩, q_401, q_1, q_94, q_402⟩
theorem cf_X8_fault : CFV yX8_fault cX8_fault 1 0 (some .int) := ⟨by decide, by decide +kernel, ⟨by decide +kernel, by decide +kernel⟩, q_379, q_380, q_94, q_381⟩
theorem cf_X8_feed : CFV yX8_feed cX8_feed 6 5 (some .int) := ⟨by decide, by decide +kernel, ⟨by decide +kernel, by decide +kernel⟩, q_371, q_372, q_94, q_373⟩
theorem cf_X8_gap : CFV yX8_gap cX8_gap 11 4 (some .int) := ⟨by decide, by decide +kernel, ⟨by decide +kernel, by decide +kernel⟩, q_1110, q_1111, q_94, q_1112⟩
theorem cf_X8_isId : CFS yX8_isId cX8_isId 1 1 (some .boolean) := ⟨by decide, by decide +kernel, ⟨by decide +kernel, by decide +kernel⟩, q_387, q_94, q_388⟩
theorem cf_X8_isTime : CFS yX8_isTime cX8_isTime 2 1 (some .boolean) := ⟨by decide, by decide +kernel, ⟨by decide +kernel, by decide +kernel⟩, q_390, q_94, q_391⟩
theorem cf_X8_isValue : CFS yX8_isValue cX8_isValue 2 1 (some .boolean) := ⟨by decide, by decide +kernel, ⟨by decide +kernel, by decide +kernel⟩, q_395, q_94, q_396⟩
theorem cf_X8_known : CFV yX8_known cX8_known 2 1 (some (.object "ThinSeries$Series")) := ⟨by decide, by decide +kernel, ⟨by decide +kernel, by decide +kernel⟩, q_1026, q_29, q_94, q_1027⟩
theorem cf_X8_latenessIn : CFV yX8_latenessIn cX8_latenessIn 4 3 (some .int) := ⟨by decide, by decide +kernel, ⟨by decide +kernel, by decide +kernel⟩, q_405, q_2, q_94, q_406⟩
theorem cf_X8_multipleFrom : CFS yX8_multipleFrom cX8_multipleFrom 2 2 (some .int) := ⟨by decide, by decide +kernel, ⟨by decide +kernel, by decide +kernel⟩, q_1179, q_94, q_1180⟩
theorem cf_X8_multipleUpTo : CFS yX8_multipleUpTo cX8_multipleUpTo 2 2 (some .int) := ⟨by decide, by decide +kernel, ⟨by decide +kernel, by decide +kernel⟩, q_420, q_94, q_421⟩
theorem cf_X8_needTier : CFV yX8_needTier cX8_needTier 2 1 none := ⟨by decide, by decide +kernel, ⟨by decide +kernel, by decide +kernel⟩, q_1006, q_28, q_94, q_1007⟩
theorem cf_X8_needWhat : CFS yX8_needWhat cX8_needWhat 2 2 none := ⟨by decide, by decide +kernel, ⟨by decide +kernel, by decide +kernel⟩, q_968, q_94, q_969⟩
theorem cf_X8_noteLate : CFV yX8_noteLate cX8_noteLate 2 1 none := ⟨by decide, by decide +kernel, ⟨by decide +kernel, by decide +kernel⟩, q_430, q_4, q_94, q_431⟩
theorem cf_X8_of : CFV yX8_of cX8_of 4 2 (some .long) := ⟨by decide, by decide +kernel, ⟨by decide +kernel, by decide +kernel⟩, q_1021, q_1022, q_94, q_1023⟩
theorem cf_X8_place : CFV yX8_place cX8_place 5 3 (some .int) := ⟨by decide, by decide +kernel, ⟨by decide +kernel, by decide +kernel⟩, q_488, q_6, q_94, q_489⟩
theorem cf_X8_placeIfItCanBe : CFV yX8_placeIfItCanBe cX8_placeIfItCanBe 6 3 (some .boolean) := ⟨by decide, by decide +kernel, ⟨by decide +kernel, by decide +kernel⟩, q_606, q_13, q_94, q_607⟩
theorem cf_X8_put : CFV yX8_put cX8_put 5 3 (some .int) := ⟨by decide, by decide +kernel, ⟨by decide +kernel, by decide +kernel⟩, q_383, q_384, q_94, q_385⟩
theorem cf_X8_quotient : CFS yX8_quotient cX8_quotient 3 2 (some .int) := ⟨by decide, by decide +kernel, ⟨by decide +kernel, by decide +kernel⟩, q_1067, q_94, q_1068⟩
theorem cf_X8_rowsOf : CFV yX8_rowsOf cX8_rowsOf 2 1 (some (.object "ThinSeries$Series")) := ⟨by decide, by decide +kernel, ⟨by decide +kernel, by decide +kernel⟩, q_434, q_5, q_94, q_435⟩
theorem cf_X8_seam : CFV yX8_seam cX8_seam 4 2 (some .int) := ⟨by decide, by decide +kernel, ⟨by decide +kernel, by decide +kernel⟩, q_1032, q_1033, q_94, q_1034⟩
theorem cf_X8_sheet : CFV yX8_sheet cX8_sheet 9 6 (some .int) := ⟨by decide, by decide +kernel, ⟨by decide +kernel, by decide +kernel⟩, q_601, q_602, q_94, q_603⟩
theorem cf_X8_surveyBoth : CFV yX8_surveyBoth cX8_surveyBoth 7 2 none := ⟨by decide, by decide +kernel, ⟨by decide +kernel, by decide +kernel⟩, q_1204, q_33, q_94, q_1205⟩
theorem cf_X8_tallyAll : CFV yX8_tallyAll cX8_tallyAll 3 1 none := ⟨by decide, by decide +kernel, ⟨by decide +kernel, by decide +kernel⟩, q_584, q_12, q_94, q_585⟩
theorem cf_X8_tallyStretch : CFV yX8_tallyStretch cX8_tallyStretch 7 3 none := ⟨by decide, by decide +kernel, ⟨by decide +kernel, by decide +kernel⟩, q_1095, q_30, q_94, q_1096⟩
theorem cf_X8_tell : CFV yX8_tell cX8_tell 4 1 (some .int) := ⟨by decide, by decide +kernel, ⟨by decide +kernel, by decide +kernel⟩, q_613, q_614, q_94, q_615⟩
theorem cf_X8_tick : CFV yX8_tick cX8_tick 3 2 (some .int) := ⟨by decide, by decide +kernel, ⟨by decide +kernel, by decide +kernel⟩, q_575, q_576, q_94, q_577⟩
theorem cf_X8_tier : CFV yX8_tier cX8_tier 3 2 (some .int) := ⟨by decide, by decide +kernel, ⟨by decide +kernel, by decide +kernel⟩, q_1001, q_1002, q_94, q_1003⟩
theorem cf_X8_total : CFV yX8_total cX8_total 6 4 (some .long) := ⟨by decide, by decide +kernel, ⟨by decide +kernel, by decide +kernel⟩, q_1089, q_1090, q_94, q_1091⟩
theorem cf_X8_trend : CFV yX8_trend cX8_trend 5 3 (some .long) := ⟨by decide, by decide +kernel, ⟨by decide +kernel, by decide +kernel⟩, q_1186, q_1187, q_94, q_1188⟩
theorem cf_X8_until : CFV yX8_until cX8_until 5 3 (some .int) := ⟨by decide, by decide +kernel, ⟨by decide +kernel, by decide +kernel⟩, q_1171, q_1172, q_94, q_1173⟩
theorem cf_X8_used : CFV yX8_used cX8_used 2 1 (some .int) := ⟨by decide, by decide +kernel, ⟨by decide +kernel, by decide +kernel⟩, q_1013, q_1014, q_94, q_1015⟩
theorem cf_X8_why : CFV yX8_why cX8_why 2 1 (some .int) := ⟨by decide, by decide +kernel, ⟨by decide +kernel, by decide +kernel⟩, q_964, q_965, q_94, q_966⟩
theorem cf_X8_would : CFV yX8_would cX8_would 5 3 (some .int) := ⟨by decide, by decide +kernel, ⟨by decide +kernel, by decide +kernel⟩, q_1160, q_1161, q_94, q_1162⟩
theorem cf_X0_init : CFI yX0_init cX0_init 1 0 := ⟨by decide, by decide +kernel, ⟨by decide +kernel, by decide +kernel⟩, rfl, q_265, q_101, q_266⟩
theorem cf_X0_addComparison : CFV yX0_addComparison cX0_addComparison 4 3 none := ⟨by decide, by decide +kernel, ⟨by decide +kernel, by decide +kernel⟩, q_907, q_908, q_101, q_909⟩
theorem cf_X0_addJoint : CFV yX0_addJoint cX0_addJoint 2 1 none := ⟨by decide, by decide +kernel, ⟨by decide +kernel, by decide +kernel⟩, q_881, q_882, q_101, q_883⟩
theorem cf_X0_addStep : CFV yX0_addStep cX0_addStep 3 2 none := ⟨by decide, by decide +kernel, ⟨by decide +kernel, by decide +kernel⟩, q_886, q_21, q_101, q_887⟩
theorem cf_X0_clear : CFV yX0_clear cX0_clear 1 0 none := ⟨by decide, by decide +kernel, ⟨by decide +kernel, by decide +kernel⟩, q_691, q_692, q_101, q_693⟩
theorem cf_X0_compares : CFV yX0_compares cX0_compares 7 3 (some .boolean) := ⟨by decide, by decide +kernel, ⟨by decide +kernel, by decide +kernel⟩, q_1147, q_31, q_101, q_1148⟩
theorem cf_X0_isSoOf : CFV yX0_isSoOf cX0_isSoOf 7 2 (some .boolean) := ⟨by decide, by decide +kernel, ⟨by decide +kernel, by decide +kernel⟩, q_1142, q_1143, q_101, q_1144⟩
theorem cf_X0_isTold : CFV yX0_isTold cX0_isTold 1 0 (some .boolean) := ⟨by decide, by decide +kernel, ⟨by decide +kernel, by decide +kernel⟩, q_994, q_995, q_101, q_996⟩
theorem cf_X1_init : CFI yX1_init cX1_init 2 1 := ⟨by decide, by decide +kernel, ⟨by decide +kernel, by decide +kernel⟩, rfl, q_180, q_97, q_181⟩
theorem cf_X1_kindHere : CFV yX1_kindHere cX1_kindHere 1 0 (some .int) := ⟨by decide, by decide +kernel, ⟨by decide +kernel, by decide +kernel⟩, q_935, q_25, q_97, q_936⟩
theorem cf_X1_read : CFV yX1_read cX1_read 3 1 (some .boolean) := ⟨by decide, by decide +kernel, ⟨by decide +kernel, by decide +kernel⟩, q_925, q_926, q_97, q_927⟩
theorem cf_X1_readLine : CFV yX1_readLine cX1_readLine 2 0 (some .boolean) := ⟨by decide, by decide +kernel, ⟨by decide +kernel, by decide +kernel⟩, q_931, q_24, q_97, q_932⟩
theorem cf_X2_init : CFI yX2_init cX2_init 1 0 := ⟨by decide, by decide +kernel, ⟨by decide +kernel, by decide +kernel⟩, rfl, q_259, q_100, q_260⟩
theorem cf_X2_addTier : CFV yX2_addTier cX2_addTier 3 2 none := ⟨by decide, by decide +kernel, ⟨by decide +kernel, by decide +kernel⟩, q_855, q_856, q_100, q_857⟩
theorem cf_X2_canFollow : CFV yX2_canFollow cX2_canFollow 3 1 (some .boolean) := ⟨by decide, by decide +kernel, ⟨by decide +kernel, by decide +kernel⟩, q_846, q_847, q_100, q_848⟩
theorem cf_X2_clear : CFV yX2_clear cX2_clear 1 0 none := ⟨by decide, by decide +kernel, ⟨by decide +kernel, by decide +kernel⟩, q_687, q_688, q_100, q_689⟩
theorem cf_X2_findSeams : CFV yX2_findSeams cX2_findSeams 5 2 none := ⟨by decide, by decide +kernel, ⟨by decide +kernel, by decide +kernel⟩, q_416, q_417, q_100, q_418⟩
theorem cf_X2_isBarWidth : CFV yX2_isBarWidth cX2_isBarWidth 2 1 (some .boolean) := ⟨by decide, by decide +kernel, ⟨by decide +kernel, by decide +kernel⟩, q_1123, q_1124, q_100, q_1125⟩
theorem cf_X2_isFull : CFV yX2_isFull cX2_isFull 1 0 (some .boolean) := ⟨by decide, by decide +kernel, ⟨by decide +kernel, by decide +kernel⟩, q_831, q_832, q_100, q_833⟩
theorem cf_X2_leastHeadPast : CFV yX2_leastHeadPast cX2_leastHeadPast 5 2 (some .int) := ⟨by decide, by decide +kernel, ⟨by decide +kernel, by decide +kernel⟩, q_1175, q_1176, q_100, q_1177⟩
theorem cf_X2_takeFirstTiers : CFV yX2_takeFirstTiers cX2_takeFirstTiers 2 0 none := ⟨by decide, by decide +kernel, ⟨by decide +kernel, by decide +kernel⟩, q_279, q_280, q_100, q_281⟩
theorem cf_X2_tierUnder : CFV yX2_tierUnder cX2_tierUnder 4 2 (some .int) := ⟨by decide, by decide +kernel, ⟨by decide +kernel, by decide +kernel⟩, q_516, q_517, q_100, q_518⟩
theorem cf_X3_init : CFI yX3_init cX3_init 2 1 := ⟨by decide, by decide +kernel, ⟨by decide +kernel, by decide +kernel⟩, rfl, q_170, q_96, q_171⟩
theorem cf_X3_factHere : CFV yX3_factHere cX3_factHere 1 0 (some .int) := ⟨by decide, by decide +kernel, ⟨by decide +kernel, by decide +kernel⟩, q_890, q_22, q_96, q_891⟩
theorem cf_X3_read : CFV yX3_read cX3_read 4 2 (some .boolean) := ⟨by decide, by decide +kernel, ⟨by decide +kernel, by decide +kernel⟩, q_683, q_684, q_96, q_685⟩
theorem cf_X3_readClause : CFV yX3_readClause cX3_readClause 3 1 (some .boolean) := ⟨by decide, by decide +kernel, ⟨by decide +kernel, by decide +kernel⟩, q_798, q_17, q_96, q_799⟩
theorem cf_X3_readTest : CFV yX3_readTest cX3_readTest 5 2 (some .boolean) := ⟨by decide, by decide +kernel, ⟨by decide +kernel, by decide +kernel⟩, q_864, q_19, q_96, q_865⟩
theorem cf_X3_readTier : CFV yX3_readTier cX3_readTier 3 1 (some .boolean) := ⟨by decide, by decide +kernel, ⟨by decide +kernel, by decide +kernel⟩, q_828, q_18, q_96, q_829⟩
theorem cf_X3_readUnit : CFV yX3_readUnit cX3_readUnit 7 2 (some .boolean) := ⟨by decide, by decide +kernel, ⟨by decide +kernel, by decide +kernel⟩, q_868, q_20, q_96, q_869⟩
theorem cf_X3_relationHere : CFV yX3_relationHere cX3_relationHere 1 0 (some .int) := ⟨by decide, by decide +kernel, ⟨by decide +kernel, by decide +kernel⟩, q_899, q_23, q_96, q_900⟩
theorem cf_X4_init : CFI yX4_init cX4_init 1 0 := ⟨by decide, by decide +kernel, ⟨by decide +kernel, by decide +kernel⟩, rfl, q_211, q_98, q_212⟩
theorem cf_X4_clear : CFV yX4_clear cX4_clear 1 0 none := ⟨by decide, by decide +kernel, ⟨by decide +kernel, by decide +kernel⟩, q_914, q_915, q_98, q_916⟩
theorem cf_X4_copyFrom : CFV yX4_copyFrom cX4_copyFrom 3 1 none := ⟨by decide, by decide +kernel, ⟨by decide +kernel, by decide +kernel⟩, q_952, q_953, q_98, q_954⟩
theorem cf_X4_knows : CFV yX4_knows cX4_knows 2 1 (some .boolean) := ⟨by decide, by decide +kernel, ⟨by decide +kernel, by decide +kernel⟩, q_408, q_409, q_98, q_410⟩
theorem cf_X4_placeOf : CFV yX4_placeOf cX4_placeOf 3 1 (some .int) := ⟨by decide, by decide +kernel, ⟨by decide +kernel, by decide +kernel⟩, q_413, q_3, q_98, q_414⟩
theorem cf_X4_remove : CFV yX4_remove cX4_remove 4 1 none := ⟨by decide, by decide +kernel, ⟨by decide +kernel, by decide +kernel⟩, q_597, q_598, q_98, q_599⟩
theorem cf_X4_use : CFV yX4_use cX4_use 7 3 (some .int) := ⟨by decide, by decide +kernel, ⟨by decide +kernel, by decide +kernel⟩, q_495, q_496, q_98, q_497⟩
theorem cf_X5_init : CFI yX5_init cX5_init 2 1 := ⟨by decide, by decide +kernel, ⟨by decide +kernel, by decide +kernel⟩, rfl, q_438, q_113, q_439⟩
theorem cf_X5_add : CFV yX5_add cX5_add 6 2 none := ⟨by decide, by decide +kernel, ⟨by decide +kernel, by decide +kernel⟩, q_533, q_534, q_113, q_535⟩
theorem cf_X5_begin : CFV yX5_begin cX5_begin 3 2 none := ⟨by decide, by decide +kernel, ⟨by decide +kernel, by decide +kernel⟩, q_500, q_501, q_113, q_502⟩
theorem cf_X5_beginOf : CFV yX5_beginOf cX5_beginOf 2 1 (some .int) := ⟨by decide, by decide +kernel, ⟨by decide +kernel, by decide +kernel⟩, q_1047, q_1048, q_113, q_1049⟩
theorem cf_X5_carry : CFV yX5_carry cX5_carry 4 3 none := ⟨by decide, by decide +kernel, ⟨by decide +kernel, by decide +kernel⟩, q_530, q_9, q_113, q_531⟩
theorem cf_X5_endOf : CFV yX5_endOf cX5_endOf 2 1 (some .int) := ⟨by decide, by decide +kernel, ⟨by decide +kernel, by decide +kernel⟩, q_1043, q_1044, q_113, q_1045⟩
theorem cf_X5_fact : CFV yX5_fact cX5_fact 3 2 (some .long) := ⟨by decide, by decide +kernel, ⟨by decide +kernel, by decide +kernel⟩, q_1059, q_1060, q_113, q_1061⟩
theorem cf_X5_firstFrom : CFV yX5_firstFrom cX5_firstFrom 5 1 (some .int) := ⟨by decide, by decide +kernel, ⟨by decide +kernel, by decide +kernel⟩, q_537, q_538, q_113, q_539⟩
theorem cf_X5_foresee : CFV yX5_foresee cX5_foresee 10 2 none := ⟨by decide, by decide +kernel, ⟨by decide +kernel, by decide +kernel⟩, q_1164, q_1165, q_113, q_1166⟩
theorem cf_X5_hasStart : CFV yX5_hasStart cX5_hasStart 3 2 (some .boolean) := ⟨by decide, by decide +kernel, ⟨by decide +kernel, by decide +kernel⟩, q_541, q_542, q_113, q_543⟩
theorem cf_X5_isBesideTheOneAhead : CFV yX5_isBesideTheOneAhead cX5_isBesideTheOneAhead 2 1 (some .boolean) := ⟨by decide, by decide +kernel, ⟨by decide +kernel, by decide +kernel⟩, q_1153, q_32, q_113, q_1154⟩
theorem cf_X5_join : CFV yX5_join cX5_join 3 2 none := ⟨by decide, by decide +kernel, ⟨by decide +kernel, by decide +kernel⟩, q_522, q_8, q_113, q_523⟩
theorem cf_X5_makeRoom : CFV yX5_makeRoom cX5_makeRoom 2 0 (some .boolean) := ⟨by decide, by decide +kernel, ⟨by decide +kernel, by decide +kernel⟩, q_546, q_10, q_113, q_547⟩
theorem cf_X5_mean : CFV yX5_mean cX5_mean 2 1 (some .int) := ⟨by decide, by decide +kernel, ⟨by decide +kernel, by decide +kernel⟩, q_1063, q_1064, q_113, q_1065⟩
theorem cf_X5_moveTo : CFV yX5_moveTo cX5_moveTo 7 1 (some .int) := ⟨by decide, by decide +kernel, ⟨by decide +kernel, by decide +kernel⟩, q_505, q_506, q_113, q_507⟩
theorem cf_X5_openAt : CFV yX5_openAt cX5_openAt 5 3 none := ⟨by decide, by decide +kernel, ⟨by decide +kernel, by decide +kernel⟩, q_571, q_11, q_113, q_572⟩
theorem cf_X5_pointsFrom : CFV yX5_pointsFrom cX5_pointsFrom 3 1 (some .int) := ⟨by decide, by decide +kernel, ⟨by decide +kernel, by decide +kernel⟩, q_1082, q_1083, q_113, q_1084⟩
theorem cf_X5_spanAt : CFV yX5_spanAt cX5_spanAt 3 1 (some .int) := ⟨by decide, by decide +kernel, ⟨by decide +kernel, by decide +kernel⟩, q_1098, q_1099, q_113, q_1100⟩
theorem cf_X5_surveyAlarms : CFV yX5_surveyAlarms cX5_surveyAlarms 5 1 none := ⟨by decide, by decide +kernel, ⟨by decide +kernel, by decide +kernel⟩, q_1137, q_1138, q_113, q_1139⟩
theorem cf_X5_surveyTrend : CFV yX5_surveyTrend cX5_surveyTrend 6 2 none := ⟨by decide, by decide +kernel, ⟨by decide +kernel, by decide +kernel⟩, q_1190, q_1191, q_113, q_1192⟩
theorem cf_X5_tierOf : CFV yX5_tierOf cX5_tierOf 2 1 (some .int) := ⟨by decide, by decide +kernel, ⟨by decide +kernel, by decide +kernel⟩, q_512, q_513, q_113, q_514⟩
theorem cf_X6_init : CFI yX6_init cX6_init 1 0 := ⟨by decide, by decide +kernel, ⟨by decide +kernel, by decide +kernel⟩, rfl, q_232, q_99, q_233⟩
theorem cf_X6_add : CFV yX6_add cX6_add 3 2 none := ⟨by decide, by decide +kernel, ⟨by decide +kernel, by decide +kernel⟩, q_591, q_592, q_99, q_593⟩
theorem cf_X6_clear : CFV yX6_clear cX6_clear 1 0 none := ⟨by decide, by decide +kernel, ⟨by decide +kernel, by decide +kernel⟩, q_587, q_588, q_99, q_589⟩
theorem cf_X6_fact : CFV yX6_fact cX6_fact 2 1 (some .long) := ⟨by decide, by decide +kernel, ⟨by decide +kernel, by decide +kernel⟩, q_1103, q_1104, q_99, q_1105⟩
theorem cf_X7_init : CFI yX7_init cX7_init 2 1 := ⟨by decide, by decide +kernel, ⟨by decide +kernel, by decide +kernel⟩, rfl, q_128, q_95, q_129⟩
theorem cf_X7_isNumberWithin : CFV yX7_isNumberWithin cX7_isNumberWithin 3 2 (some .boolean) := ⟨by decide, by decide +kernel, ⟨by decide +kernel, by decide +kernel⟩, q_841, q_842, q_95, q_843⟩
theorem cf_X7_isSign : CFV yX7_isSign cX7_isSign 2 1 (some .boolean) := ⟨by decide, by decide +kernel, ⟨by decide +kernel, by decide +kernel⟩, q_872, q_873, q_95, q_874⟩
theorem cf_X7_isWord : CFV yX7_isWord cX7_isWord 3 1 (some .boolean) := ⟨by decide, by decide +kernel, ⟨by decide +kernel, by decide +kernel⟩, q_802, q_803, q_95, q_804⟩
theorem cf_X7_next : CFV yX7_next cX7_next 1 0 none := ⟨by decide, by decide +kernel, ⟨by decide +kernel, by decide +kernel⟩, q_701, q_702, q_95, q_703⟩
theorem cf_X7_open : CFV yX7_open cX7_open 2 1 none := ⟨by decide, by decide +kernel, ⟨by decide +kernel, by decide +kernel⟩, q_695, q_696, q_95, q_697⟩
theorem cf_X7_readNumber : CFV yX7_readNumber cX7_readNumber 1 0 none := ⟨by decide, by decide +kernel, ⟨by decide +kernel, by decide +kernel⟩, q_710, q_16, q_95, q_711⟩
theorem cf_X7_readWord : CFV yX7_readWord cX7_readWord 1 0 none := ⟨by decide, by decide +kernel, ⟨by decide +kernel, by decide +kernel⟩, q_706, q_15, q_95, q_707⟩
theorem cf_X7_refuse : CFV yX7_refuse cX7_refuse 2 1 (some .boolean) := ⟨by decide, by decide +kernel, ⟨by decide +kernel, by decide +kernel⟩, q_835, q_836, q_95, q_837⟩
theorem cf_X7_takeNumber : CFV yX7_takeNumber cX7_takeNumber 3 2 (some .boolean) := ⟨by decide, by decide +kernel, ⟨by decide +kernel, by decide +kernel⟩, q_850, q_851, q_95, q_852⟩
theorem cf_X7_takeSign : CFV yX7_takeSign cX7_takeSign 2 1 (some .boolean) := ⟨by decide, by decide +kernel, ⟨by decide +kernel, by decide +kernel⟩, q_876, q_877, q_95, q_878⟩
theorem cf_X7_takeSigned : CFV yX7_takeSigned cX7_takeSigned 3 1 (some .boolean) := ⟨by decide, by decide +kernel, ⟨by decide +kernel, by decide +kernel⟩, q_903, q_904, q_95, q_905⟩
theorem cf_L_alarms : CFW yL_alarms cL_alarms 5 4 (some .int) [(0, 10, 13, 21)] := ⟨by decide, by decide +kernel, ⟨by decide +kernel, by decide +kernel⟩, q_1130, q_93, q_1131⟩
theorem cf_L_at : CFW yL_at cL_at 6 5 (some .int) [(0, 12, 15, 21)] := ⟨by decide, by decide +kernel, ⟨by decide +kernel, by decide +kernel⟩, q_1073, q_93, q_1074⟩
theorem cf_L_bar : CFW yL_bar cL_bar 7 6 (some .int) [(0, 13, 16, 21), (0, 13, 20, 13)] := ⟨by decide, by decide +kernel, ⟨by decide +kernel, by decide +kernel⟩, q_1116, q_93, q_1117⟩
theorem cf_L_batch : CFW yL_batch cL_batch 4 3 (some .int) [(0, 9, 12, 13)] := ⟨by decide, by decide +kernel, ⟨by decide +kernel, by decide +kernel⟩, q_918, q_93, q_919⟩
theorem cf_L_both : CFW yL_both cL_both 6 5 (some .int) [(0, 12, 15, 21)] := ⟨by decide, by decide +kernel, ⟨by decide +kernel, by decide +kernel⟩, q_1196, q_93, q_1197⟩
theorem cf_L_bucket : CFW yL_bucket cL_bucket 7 6 (some .int) [(0, 13, 16, 21)] := ⟨by decide, by decide +kernel, ⟨by decide +kernel, by decide +kernel⟩, q_1051, q_93, q_1052⟩
theorem cf_L_buckets : CFW yL_buckets cL_buckets 5 4 (some .int) [(0, 10, 13, 21)] := ⟨by decide, by decide +kernel, ⟨by decide +kernel, by decide +kernel⟩, q_1036, q_93, q_1037⟩
theorem cf_L_count : CFW yL_count cL_count 4 3 (some .int) [(0, 9, 12, 21)] := ⟨by decide, by decide +kernel, ⟨by decide +kernel, by decide +kernel⟩, q_987, q_93, q_988⟩
theorem cf_L_gap : CFW yL_gap cL_gap 7 6 (some .int) [(0, 14, 17, 21)] := ⟨by decide, by decide +kernel, ⟨by decide +kernel, by decide +kernel⟩, q_1107, q_93, q_1108⟩
theorem cf_L_of : CFW yL_of cL_of 5 4 (some .int) [(0, 9, 12, 21)] := ⟨by decide, by decide +kernel, ⟨by decide +kernel, by decide +kernel⟩, q_1018, q_93, q_1019⟩
theorem cf_L_seam : CFW yL_seam cL_seam 5 4 (some .int) [(0, 10, 13, 21)] := ⟨by decide, by decide +kernel, ⟨by decide +kernel, by decide +kernel⟩, q_1029, q_93, q_1030⟩
theorem cf_L_tell : CFW yL_tell cL_tell 4 3 (some .int) [(0, 9, 12, 13)] := ⟨by decide, by decide +kernel, ⟨by decide +kernel, by decide +kernel⟩, q_609, q_93, q_610⟩
theorem cf_L_tier : CFW yL_tier cL_tier 5 4 (some .int) [(0, 10, 13, 21)] := ⟨by decide, by decide +kernel, ⟨by decide +kernel, by decide +kernel⟩, q_998, q_93, q_999⟩
theorem cf_L_total : CFW yL_total cL_total 7 6 (some .int) [(0, 13, 16, 21), (0, 13, 20, 13)] := ⟨by decide, by decide +kernel, ⟨by decide +kernel, by decide +kernel⟩, q_1086, q_93, q_1087⟩
theorem cf_L_trend : CFW yL_trend cL_trend 6 5 (some .int) [(0, 11, 14, 21)] := ⟨by decide, by decide +kernel, ⟨by decide +kernel, by decide +kernel⟩, q_1183, q_93, q_1184⟩
theorem cf_L_until : CFW yL_until cL_until 6 5 (some .int) [(0, 12, 15, 21), (0, 12, 19, 13)] := ⟨by decide, by decide +kernel, ⟨by decide +kernel, by decide +kernel⟩, q_1168, q_93, q_1169⟩
theorem cf_L_used : CFW yL_used cL_used 4 3 (some .int) [(0, 9, 12, 21)] := ⟨by decide, by decide +kernel, ⟨by decide +kernel, by decide +kernel⟩, q_1010, q_93, q_1011⟩
theorem cf_L_why : CFW yL_why cL_why 4 3 (some .int) [(0, 9, 12, 21)] := ⟨by decide, by decide +kernel, ⟨by decide +kernel, by decide +kernel⟩, q_960, q_93, q_961⟩
theorem cf_L_would : CFW yL_would cL_would 6 5 (some .int) [(0, 12, 15, 21), (0, 12, 19, 13)] := ⟨by decide, by decide +kernel, ⟨by decide +kernel, by decide +kernel⟩, q_1157, q_93, q_1158⟩
theorem cf_X9_init : CFI yX9_init cX9_init 1 0 := ⟨by decide, by decide +kernel, ⟨by decide +kernel, by decide +kernel⟩, rfl, q_1214, q_102, q_1215⟩
theorem cf_X9_adds : CFV yX9_adds cX9_adds 1 0 none := ⟨by decide, by decide +kernel, ⟨by decide +kernel, by decide +kernel⟩, q_1790, q_86, q_102, q_1791⟩
theorem cf_X9_alarms : CFV yX9_alarms cX9_alarms 3 2 (some .int) := ⟨by decide, by decide +kernel, ⟨by decide +kernel, by decide +kernel⟩, q_1802, q_1803, q_102, q_1804⟩
theorem cf_X9_allBuckets : CFV yX9_allBuckets cX9_allBuckets 5 1 (some .int) := ⟨by decide, by decide +kernel, ⟨by decide +kernel, by decide +kernel⟩, q_1663, q_71, q_102, q_1664⟩
theorem cf_X9_allBy : CFV yX9_allBy cX9_allBy 7 2 (some .long) := ⟨by decide, by decide +kernel, ⟨by decide +kernel, by decide +kernel⟩, q_1733, q_79, q_102, q_1734⟩
theorem cf_X9_at : CFV yX9_at cX9_at 6 3 (some .int) := ⟨by decide, by decide +kernel, ⟨by decide +kernel, by decide +kernel⟩, q_1771, q_1772, q_102, q_1773⟩
theorem cf_X9_bar : CFV yX9_bar cX9_bar 8 4 (some .long) := ⟨by decide, by decide +kernel, ⟨by decide +kernel, by decide +kernel⟩, q_1797, q_1798, q_102, q_1799⟩
theorem cf_X9_batch : CFV yX9_batch cX9_batch 3 1 (some .int) := ⟨by decide, by decide +kernel, ⟨by decide +kernel, by decide +kernel⟩, q_1683, q_1684, q_102, q_1685⟩
theorem cf_X9_begin : CFV yX9_begin cX9_begin 2 1 none := ⟨by decide, by decide +kernel, ⟨by decide +kernel, by decide +kernel⟩, q_1460, q_35, q_102, q_1461⟩
theorem cf_X9_behindOf : CFV yX9_behindOf cX9_behindOf 2 1 (some .int) := ⟨by decide, by decide +kernel, ⟨by decide +kernel, by decide +kernel⟩, q_1638, q_67, q_102, q_1639⟩
theorem cf_X9_both : CFV yX9_both cX9_both 11 3 (some .int) := ⟨by decide, by decide +kernel, ⟨by decide +kernel, by decide +kernel⟩, q_1839, q_1840, q_102, q_1841⟩
theorem cf_X9_bucket : CFV yX9_bucket cX9_bucket 7 4 (some .long) := ⟨by decide, by decide +kernel, ⟨by decide +kernel, by decide +kernel⟩, q_1763, q_1764, q_102, q_1765⟩
theorem cf_X9_bucketFrom : CFV yX9_bucketFrom cX9_bucketFrom 4 1 (some .int) := ⟨by decide, by decide +kernel, ⟨by decide +kernel, by decide +kernel⟩, q_1667, q_72, q_102, q_1668⟩
theorem cf_X9_buckets : CFV yX9_buckets cX9_buckets 3 2 (some .int) := ⟨by decide, by decide +kernel, ⟨by decide +kernel, by decide +kernel⟩, q_1747, q_1748, q_102, q_1749⟩
theorem cf_X9_bucketsBy : CFV yX9_bucketsBy cX9_bucketsBy 7 2 (some .int) := ⟨by decide, by decide +kernel, ⟨by decide +kernel, by decide +kernel⟩, q_1823, q_90, q_102, q_1824⟩
theorem cf_X9_bucketsIn : CFV yX9_bucketsIn cX9_bucketsIn 6 2 (some .int) := ⟨by decide, by decide +kernel, ⟨by decide +kernel, by decide +kernel⟩, q_1752, q_80, q_102, q_1753⟩
theorem cf_X9_by : CFS yX9_by cX9_by 4 2 (some .long) := ⟨by decide, by decide +kernel, ⟨by decide +kernel, by decide +kernel⟩, q_1598, q_102, q_1599⟩
theorem cf_X9_byteAt : CFV yX9_byteAt cX9_byteAt 2 1 (some .int) := ⟨by decide, by decide +kernel, ⟨by decide +kernel, by decide +kernel⟩, q_1468, q_37, q_102, q_1469⟩
theorem cf_X9_clears : CFV yX9_clears cX9_clears 1 0 none := ⟨by decide, by decide +kernel, ⟨by decide +kernel, by decide +kernel⟩, q_1786, q_85, q_102, q_1787⟩
theorem cf_X9_comes : CFV yX9_comes cX9_comes 6 3 none := ⟨by decide, by decide +kernel, ⟨by decide +kernel, by decide +kernel⟩, q_1648, q_69, q_102, q_1649⟩
theorem cf_X9_copies : CFS yX9_copies cX9_copies 4 3 none := ⟨by decide, by decide +kernel, ⟨by decide +kernel, by decide +kernel⟩, q_1697, q_102, q_1698⟩
theorem cf_X9_count : CFV yX9_count cX9_count 2 1 (some .int) := ⟨by decide, by decide +kernel, ⟨by decide +kernel, by decide +kernel⟩, q_1708, q_1709, q_102, q_1710⟩
theorem cf_X9_does : CFV yX9_does cX9_does 6 4 (some .int) := ⟨by decide, by decide +kernel, ⟨by decide +kernel, by decide +kernel⟩, q_1701, q_75, q_102, q_1702⟩
theorem cf_X9_drop : CFV yX9_drop cX9_drop 2 1 (some .int) := ⟨by decide, by decide +kernel, ⟨by decide +kernel, by decide +kernel⟩, q_1670, q_1671, q_102, q_1672⟩
theorem cf_X9_ended : CFV yX9_ended cX9_ended 1 0 (some .int) := ⟨by decide, by decide +kernel, ⟨by decide +kernel, by decide +kernel⟩, q_1553, q_53, q_102, q_1554⟩
theorem cf_X9_fail : CFV yX9_fail cX9_fail 2 1 (some .int) := ⟨by decide, by decide +kernel, ⟨by decide +kernel, by decide +kernel⟩, q_1456, q_34, q_102, q_1457⟩
theorem cf_X9_fault : CFV yX9_fault cX9_fault 1 0 (some .int) := ⟨by decide, by decide +kernel, ⟨by decide +kernel, by decide +kernel⟩, q_1556, q_1557, q_102, q_1558⟩
theorem cf_X9_feed : CFV yX9_feed cX9_feed 8 5 (some .int) := ⟨by decide, by decide +kernel, ⟨by decide +kernel, by decide +kernel⟩, q_1447, q_1448, q_102, q_1449⟩
theorem cf_X9_fieldNow : CFV yX9_fieldNow cX9_fieldNow 2 1 (some .long) := ⟨by decide, by decide +kernel, ⟨by decide +kernel, by decide +kernel⟩, q_1815, q_89, q_102, q_1816⟩
theorem cf_X9_fine : CFV yX9_fine cX9_fine 1 0 none := ⟨by decide, by decide +kernel, ⟨by decide +kernel, by decide +kernel⟩, q_1565, q_54, q_102, q_1566⟩
theorem cf_X9_firstOf : CFV yX9_firstOf cX9_firstOf 2 1 (some .int) := ⟨by decide, by decide +kernel, ⟨by decide +kernel, by decide +kernel⟩, q_1629, q_65, q_102, q_1630⟩
theorem cf_X9_gap : CFV yX9_gap cX9_gap 10 4 (some .int) := ⟨by decide, by decide +kernel, ⟨by decide +kernel, by decide +kernel⟩, q_1793, q_1794, q_102, q_1795⟩
theorem cf_X9_goes : CFV yX9_goes cX9_goes 5 2 (some .int) := ⟨by decide, by decide +kernel, ⟨by decide +kernel, by decide +kernel⟩, q_1643, q_68, q_102, q_1644⟩
theorem cf_X9_is : CFV yX9_is cX9_is 4 1 (some .boolean) := ⟨by decide, by decide +kernel, ⟨by decide +kernel, by decide +kernel⟩, q_1491, q_40, q_102, q_1492⟩
theorem cf_X9_isAlarmed : CFV yX9_isAlarmed cX9_isAlarmed 7 0 (some .boolean) := ⟨by decide, by decide +kernel, ⟨by decide +kernel, by decide +kernel⟩, q_1811, q_88, q_102, q_1812⟩
theorem cf_X9_isDigit : CFS yX9_isDigit cX9_isDigit 1 1 (some .boolean) := ⟨by decide, by decide +kernel, ⟨by decide +kernel, by decide +kernel⟩, q_1474, q_102, q_1475⟩
theorem cf_X9_isId : CFS yX9_isId cX9_isId 1 1 (some .boolean) := ⟨by decide, by decide +kernel, ⟨by decide +kernel, by decide +kernel⟩, q_1568, q_102, q_1569⟩
theorem cf_X9_isIn : CFS yX9_isIn cX9_isIn 6 3 (some .boolean) := ⟨by decide, by decide +kernel, ⟨by decide +kernel, by decide +kernel⟩, q_1513, q_102, q_1514⟩
theorem cf_X9_isLate : CFV yX9_isLate cX9_isLate 3 2 (some .boolean) := ⟨by decide, by decide +kernel, ⟨by decide +kernel, by decide +kernel⟩, q_1587, q_56, q_102, q_1588⟩
theorem cf_X9_isLateBy : CFV yX9_isLateBy cX9_isLateBy 3 2 none := ⟨by decide, by decide +kernel, ⟨by decide +kernel, by decide +kernel⟩, q_1605, q_59, q_102, q_1606⟩
theorem cf_X9_isLetter : CFS yX9_isLetter cX9_isLetter 1 1 (some .boolean) := ⟨by decide, by decide +kernel, ⟨by decide +kernel, by decide +kernel⟩, q_1471, q_102, q_1472⟩
theorem cf_X9_isMark : CFS yX9_isMark cX9_isMark 1 1 (some .boolean) := ⟨by decide, by decide +kernel, ⟨by decide +kernel, by decide +kernel⟩, q_1479, q_102, q_1480⟩
theorem cf_X9_isMarked : CFV yX9_isMarked cX9_isMarked 2 1 (some .boolean) := ⟨by decide, by decide +kernel, ⟨by decide +kernel, by decide +kernel⟩, q_1534, q_49, q_102, q_1535⟩
theorem cf_X9_isSeries : CFV yX9_isSeries cX9_isSeries 2 1 (some .boolean) := ⟨by decide, by decide +kernel, ⟨by decide +kernel, by decide +kernel⟩, q_1729, q_78, q_102, q_1730⟩
theorem cf_X9_isTier : CFV yX9_isTier cX9_isTier 2 1 (some .boolean) := ⟨by decide, by decide +kernel, ⟨by decide +kernel, by decide +kernel⟩, q_1717, q_77, q_102, q_1718⟩
theorem cf_X9_isTime : CFS yX9_isTime cX9_isTime 2 1 (some .boolean) := ⟨by decide, by decide +kernel, ⟨by decide +kernel, by decide +kernel⟩, q_1572, q_102, q_1573⟩
theorem cf_X9_isValue : CFS yX9_isValue cX9_isValue 2 1 (some .boolean) := ⟨by decide, by decide +kernel, ⟨by decide +kernel, by decide +kernel⟩, q_1577, q_102, q_1578⟩
theorem cf_X9_lastSeam : CFV yX9_lastSeam cX9_lastSeam 2 1 (some .int) := ⟨by decide, by decide +kernel, ⟨by decide +kernel, by decide +kernel⟩, q_1591, q_57, q_102, q_1592⟩
theorem cf_X9_lay : CFV yX9_lay cX9_lay 2 1 none := ⟨by decide, by decide +kernel, ⟨by decide +kernel, by decide +kernel⟩, q_1538, q_50, q_102, q_1539⟩
theorem cf_X9_laysAside : CFV yX9_laysAside cX9_laysAside 2 0 none := ⟨by decide, by decide +kernel, ⟨by decide +kernel, by decide +kernel⟩, q_1694, q_74, q_102, q_1695⟩
theorem cf_X9_leaves : CFV yX9_leaves cX9_leaves 2 1 (some .int) := ⟨by decide, by decide +kernel, ⟨by decide +kernel, by decide +kernel⟩, q_1625, q_64, q_102, q_1626⟩
theorem cf_X9_longer : CFS yX9_longer cX9_longer 3 1 (some (.array .int)) := ⟨by decide, by decide +kernel, ⟨by decide +kernel, by decide +kernel⟩, q_1651, q_102, q_1652⟩
theorem cf_X9_mark : CFV yX9_mark cX9_mark 2 1 none := ⟨by decide, by decide +kernel, ⟨by decide +kernel, by decide +kernel⟩, q_1542, q_51, q_102, q_1543⟩
theorem cf_X9_meanNow : CFV yX9_meanNow cX9_meanNow 1 0 (some .int) := ⟨by decide, by decide +kernel, ⟨by decide +kernel, by decide +kernel⟩, q_1768, q_83, q_102, q_1769⟩
theorem cf_X9_meanOf : CFV yX9_meanOf cX9_meanOf 5 3 (some .int) := ⟨by decide, by decide +kernel, ⟨by decide +kernel, by decide +kernel⟩, q_1844, q_92, q_102, q_1845⟩
theorem cf_X9_movedBy : CFV yX9_movedBy cX9_movedBy 6 2 (some .int) := ⟨by decide, by decide +kernel, ⟨by decide +kernel, by decide +kernel⟩, q_1827, q_91, q_102, q_1828⟩
theorem cf_X9_multiple : CFS yX9_multiple cX9_multiple 3 2 (some .int) := ⟨by decide, by decide +kernel, ⟨by decide +kernel, by decide +kernel⟩, q_1601, q_102, q_1602⟩
theorem cf_X9_numberNow : CFV yX9_numberNow cX9_numberNow 4 3 (some .int) := ⟨by decide, by decide +kernel, ⟨by decide +kernel, by decide +kernel⟩, q_1510, q_44, q_102, q_1511⟩
theorem cf_X9_of : CFV yX9_of cX9_of 3 2 (some .long) := ⟨by decide, by decide +kernel, ⟨by decide +kernel, by decide +kernel⟩, q_1724, q_1725, q_102, q_1726⟩
theorem cf_X9_oldest : CFV yX9_oldest cX9_oldest 3 0 (some .int) := ⟨by decide, by decide +kernel, ⟨by decide +kernel, by decide +kernel⟩, q_1621, q_63, q_102, q_1622⟩
theorem cf_X9_pass : CFV yX9_pass cX9_pass 1 0 none := ⟨by decide, by decide +kernel, ⟨by decide +kernel, by decide +kernel⟩, q_1501, q_42, q_102, q_1502⟩
theorem cf_X9_placeOf : CFV yX9_placeOf cX9_placeOf 8 2 (some .int) := ⟨by decide, by decide +kernel, ⟨by decide +kernel, by decide +kernel⟩, q_1634, q_66, q_102, q_1635⟩
theorem cf_X9_put : CFV yX9_put cX9_put 4 3 (some .int) := ⟨by decide, by decide +kernel, ⟨by decide +kernel, by decide +kernel⟩, q_1560, q_1561, q_102, q_1562⟩
theorem cf_X9_puts : CFV yX9_puts cX9_puts 4 3 none := ⟨by decide, by decide +kernel, ⟨by decide +kernel, by decide +kernel⟩, q_1609, q_60, q_102, q_1610⟩
theorem cf_X9_readAll : CFV yX9_readAll cX9_readAll 2 1 none := ⟨by decide, by decide +kernel, ⟨by decide +kernel, by decide +kernel⟩, q_1525, q_47, q_102, q_1526⟩
theorem cf_X9_readClause : CFV yX9_readClause cX9_readClause 2 0 none := ⟨by decide, by decide +kernel, ⟨by decide +kernel, by decide +kernel⟩, q_1483, q_38, q_102, q_1484⟩
theorem cf_X9_readLine : CFV yX9_readLine cX9_readLine 5 0 none := ⟨by decide, by decide +kernel, ⟨by decide +kernel, by decide +kernel⟩, q_1688, q_73, q_102, q_1689⟩
theorem cf_X9_readNumber : CFV yX9_readNumber cX9_readNumber 4 2 (some .int) := ⟨by decide, by decide +kernel, ⟨by decide +kernel, by decide +kernel⟩, q_1517, q_45, q_102, q_1518⟩
theorem cf_X9_readSigned : CFV yX9_readSigned cX9_readSigned 5 2 (some .int) := ⟨by decide, by decide +kernel, ⟨by decide +kernel, by decide +kernel⟩, q_1547, q_52, q_102, q_1548⟩
theorem cf_X9_readTest : CFV yX9_readTest cX9_readTest 2 1 none := ⟨by decide, by decide +kernel, ⟨by decide +kernel, by decide +kernel⟩, q_1521, q_46, q_102, q_1522⟩
theorem cf_X9_readTier : CFV yX9_readTier cX9_readTier 4 0 none := ⟨by decide, by decide +kernel, ⟨by decide +kernel, by decide +kernel⟩, q_1505, q_43, q_102, q_1506⟩
theorem cf_X9_readUnit : CFV yX9_readUnit cX9_readUnit 6 1 none := ⟨by decide, by decide +kernel, ⟨by decide +kernel, by decide +kernel⟩, q_1529, q_48, q_102, q_1530⟩
theorem cf_X9_refuse : CFV yX9_refuse cX9_refuse 2 1 (some .int) := ⟨by decide, by decide +kernel, ⟨by decide +kernel, by decide +kernel⟩, q_1583, q_55, q_102, q_1584⟩
theorem cf_X9_rises : CFV yX9_rises cX9_rises 4 2 none := ⟨by decide, by decide +kernel, ⟨by decide +kernel, by decide +kernel⟩, q_1613, q_61, q_102, q_1614⟩
theorem cf_X9_seam : CFV yX9_seam cX9_seam 3 2 (some .int) := ⟨by decide, by decide +kernel, ⟨by decide +kernel, by decide +kernel⟩, q_1743, q_1744, q_102, q_1745⟩
theorem cf_X9_seamBy : CFV yX9_seamBy cX9_seamBy 8 2 (some .int) := ⟨by decide, by decide +kernel, ⟨by decide +kernel, by decide +kernel⟩, q_1595, q_58, q_102, q_1596⟩
theorem cf_X9_series : CFV yX9_series cX9_series 3 0 (some .int) := ⟨by decide, by decide +kernel, ⟨by decide +kernel, by decide +kernel⟩, q_1617, q_62, q_102, q_1618⟩
theorem cf_X9_sheet : CFV yX9_sheet cX9_sheet 13 6 (some .int) := ⟨by decide, by decide +kernel, ⟨by decide +kernel, by decide +kernel⟩, q_1674, q_1675, q_102, q_1676⟩
theorem cf_X9_stepOn : CFV yX9_stepOn cX9_stepOn 2 0 none := ⟨by decide, by decide +kernel, ⟨by decide +kernel, by decide +kernel⟩, q_1464, q_36, q_102, q_1465⟩
theorem cf_X9_takesBack : CFV yX9_takesBack cX9_takesBack 2 0 none := ⟨by decide, by decide +kernel, ⟨by decide +kernel, by decide +kernel⟩, q_1705, q_76, q_102, q_1706⟩
theorem cf_X9_tell : CFV yX9_tell cX9_tell 3 1 (some .int) := ⟨by decide, by decide +kernel, ⟨by decide +kernel, by decide +kernel⟩, q_1451, q_1452, q_102, q_1453⟩
theorem cf_X9_tellAlarms : CFV yX9_tellAlarms cX9_tellAlarms 8 1 none := ⟨by decide, by decide +kernel, ⟨by decide +kernel, by decide +kernel⟩, q_1807, q_87, q_102, q_1808⟩
theorem cf_X9_thrown : CFV yX9_thrown cX9_thrown 1 0 (some .int) := ⟨by decide, by decide +kernel, ⟨by decide +kernel, by decide +kernel⟩, q_1443, q_1444, q_102, q_1445⟩
theorem cf_X9_tick : CFV yX9_tick cX9_tick 3 2 (some .int) := ⟨by decide, by decide +kernel, ⟨by decide +kernel, by decide +kernel⟩, q_1658, q_1659, q_102, q_1660⟩
theorem cf_X9_tier : CFV yX9_tier cX9_tier 3 2 (some .int) := ⟨by decide, by decide +kernel, ⟨by decide +kernel, by decide +kernel⟩, q_1712, q_1713, q_102, q_1714⟩
theorem cf_X9_tierBy : CFV yX9_tierBy cX9_tierBy 4 2 (some .int) := ⟨by decide, by decide +kernel, ⟨by decide +kernel, by decide +kernel⟩, q_1655, q_70, q_102, q_1656⟩
theorem cf_X9_tierFrom : CFV yX9_tierFrom cX9_tierFrom 3 2 (some .int) := ⟨by decide, by decide +kernel, ⟨by decide +kernel, by decide +kernel⟩, q_1760, q_82, q_102, q_1761⟩
theorem cf_X9_tierTo : CFV yX9_tierTo cX9_tierTo 3 2 (some .int) := ⟨by decide, by decide +kernel, ⟨by decide +kernel, by decide +kernel⟩, q_1756, q_81, q_102, q_1757⟩
theorem cf_X9_total : CFV yX9_total cX9_total 5 4 (some .long) := ⟨by decide, by decide +kernel, ⟨by decide +kernel, by decide +kernel⟩, q_1776, q_1777, q_102, q_1778⟩
theorem cf_X9_totals : CFV yX9_totals cX9_totals 6 3 none := ⟨by decide, by decide +kernel, ⟨by decide +kernel, by decide +kernel⟩, q_1782, q_84, q_102, q_1783⟩
theorem cf_X9_trend : CFV yX9_trend cX9_trend 12 3 (some .long) := ⟨by decide, by decide +kernel, ⟨by decide +kernel, by decide +kernel⟩, q_1835, q_1836, q_102, q_1837⟩
theorem cf_X9_until : CFV yX9_until cX9_until 7 3 (some .int) := ⟨by decide, by decide +kernel, ⟨by decide +kernel, by decide +kernel⟩, q_1830, q_1831, q_102, q_1832⟩
theorem cf_X9_used : CFV yX9_used cX9_used 5 1 (some .int) := ⟨by decide, by decide +kernel, ⟨by decide +kernel, by decide +kernel⟩, q_1720, q_1721, q_102, q_1722⟩
theorem cf_X9_usual : CFS yX9_usual cX9_usual 2 2 none := ⟨by decide, by decide +kernel, ⟨by decide +kernel, by decide +kernel⟩, q_1231, q_102, q_1232⟩
theorem cf_X9_which : CFV yX9_which cX9_which 3 1 (some .int) := ⟨by decide, by decide +kernel, ⟨by decide +kernel, by decide +kernel⟩, q_1487, q_39, q_102, q_1488⟩
theorem cf_X9_why : CFV yX9_why cX9_why 2 1 (some .int) := ⟨by decide, by decide +kernel, ⟨by decide +kernel, by decide +kernel⟩, q_1679, q_1680, q_102, q_1681⟩
theorem cf_X9_would : CFV yX9_would cX9_would 5 3 (some .int) := ⟨by decide, by decide +kernel, ⟨by decide +kernel, by decide +kernel⟩, q_1818, q_1819, q_102, q_1820⟩
theorem cf_X9_wrong : CFV yX9_wrong cX9_wrong 2 1 none := ⟨by decide, by decide +kernel, ⟨by decide +kernel, by decide +kernel⟩, q_1497, q_41, q_102, q_1498⟩
theorem cf_J9_abs_0f7a4 : CFS yJ9_abs_0f7a4 cJ9_abs_0f7a4 1 1 (some .int) := ⟨by decide, by decide +kernel, ⟨by decide +kernel, by decide +kernel⟩, q_1209, q_107, q_1210⟩
theorem cf_J9_floorDiv_f86c9 : CFS yJ9_floorDiv_f86c9 cJ9_floorDiv_f86c9 6 2 (some .long) := ⟨by decide, by decide +kernel, ⟨by decide +kernel, by decide +kernel⟩, q_1070, q_107, q_1071⟩
theorem cf_J9_floorMod_7cf53 : CFS yJ9_floorMod_7cf53 cJ9_floorMod_7cf53 3 2 (some .int) := ⟨by decide, by decide +kernel, ⟨by decide +kernel, by decide +kernel⟩, q_423, q_107, q_424⟩
theorem cf_J9_max_7cf53 : CFS yJ9_max_7cf53 cJ9_max_7cf53 2 2 (some .int) := ⟨by decide, by decide +kernel, ⟨by decide +kernel, by decide +kernel⟩, q_426, q_107, q_427⟩
theorem cf_J9_max_f86c9 : CFS yJ9_max_f86c9 cJ9_max_f86c9 4 2 (some .long) := ⟨by decide, by decide +kernel, ⟨by decide +kernel, by decide +kernel⟩, q_1740, q_107, q_1741⟩
theorem cf_J9_min_7cf53 : CFS yJ9_min_7cf53 cJ9_min_7cf53 2 2 (some .int) := ⟨by decide, by decide +kernel, ⟨by decide +kernel, by decide +kernel⟩, q_525, q_107, q_526⟩
theorem cf_J9_min_f86c9 : CFS yJ9_min_f86c9 cJ9_min_f86c9 4 2 (some .long) := ⟨by decide, by decide +kernel, ⟨by decide +kernel, by decide +kernel⟩, q_1737, q_107, q_1738⟩
theorem cf_J0_charAt_5068e : CFV yJ0_charAt_5068e cJ0_charAt_5068e 2 1 (some .char) := ⟨by decide, by decide +kernel, ⟨by decide +kernel, by decide +kernel⟩, q_807, q_808, q_108, q_809⟩
theorem cf_J0_checkIndex_df160 : CFS yJ0_checkIndex_df160 cJ0_checkIndex_df160 2 2 none := ⟨by decide, by decide +kernel, ⟨by decide +kernel, by decide +kernel⟩, q_814, q_108, q_815⟩
theorem cf_J0_coder_7d493 : CFV yJ0_coder_7d493 cJ0_coder_7d493 1 0 (some .byte) := ⟨by decide, by decide +kernel, ⟨by decide +kernel, by decide +kernel⟩, q_733, q_734, q_108, q_735⟩
theorem cf_J0_indexOf_0f7a4 : CFV yJ0_indexOf_0f7a4 cJ0_indexOf_0f7a4 2 1 (some .int) := ⟨by decide, by decide +kernel, ⟨by decide +kernel, by decide +kernel⟩, q_715, q_716, q_108, q_717⟩
theorem cf_J0_indexOf_7cf53 : CFV yJ0_indexOf_7cf53 cJ0_indexOf_7cf53 3 2 (some .int) := ⟨by decide, by decide +kernel, ⟨by decide +kernel, by decide +kernel⟩, q_719, q_720, q_108, q_721⟩
theorem cf_J0_isLatin1_aae02 : CFV yJ0_isLatin1_aae02 cJ0_isLatin1_aae02 1 0 (some .boolean) := ⟨by decide, by decide +kernel, ⟨by decide +kernel, by decide +kernel⟩, q_723, q_724, q_108, q_725⟩
theorem cf_J0_length_8abf5 : CFV yJ0_length_8abf5 cJ0_length_8abf5 1 0 (some .int) := ⟨by decide, by decide +kernel, ⟨by decide +kernel, by decide +kernel⟩, q_729, q_730, q_108, q_731⟩
theorem cf_J1_canEncode_9a6ad : CFS yJ1_canEncode_9a6ad cJ1_canEncode_9a6ad 1 1 (some .boolean) := ⟨by decide, by decide +kernel, ⟨by decide +kernel, by decide +kernel⟩, q_740, q_109, q_741⟩
theorem cf_J1_charAt_3b067 : CFS yJ1_charAt_3b067 cJ1_charAt_3b067 2 2 (some .char) := ⟨by decide, by decide +kernel, ⟨by decide +kernel, by decide +kernel⟩, q_811, q_109, q_812⟩
theorem cf_J1_indexOf_4cfef : CFS yJ1_indexOf_4cfef cJ1_indexOf_4cfef 4 4 (some .int) := ⟨by decide, by decide +kernel, ⟨by decide +kernel, by decide +kernel⟩, q_737, q_109, q_738⟩
theorem cf_J1_indexOfChar_4cfef : CFS yJ1_indexOfChar_4cfef cJ1_indexOfChar_4cfef 6 4 (some .int) := ⟨by decide, by decide +kernel, ⟨by decide +kernel, by decide +kernel⟩, q_745, q_109, q_746⟩
theorem cf_J7_copyOf_59c91 : CFS yJ7_copyOf_59c91 cJ7_copyOf_59c91 3 2 (some (.array .int)) := ⟨by decide, by decide +kernel, ⟨by decide +kernel, by decide +kernel⟩, q_550, q_115, q_551⟩
theorem cf_J7_copyOf_c38d5 : CFS yJ7_copyOf_c38d5 cJ7_copyOf_c38d5 3 2 (some (.array .long)) := ⟨by decide, by decide +kernel, ⟨by decide +kernel, by decide +kernel⟩, q_562, q_115, q_563⟩
theorem cf_J3_checkIndex_8e157 : CFS yJ3_checkIndex_8e157 cJ3_checkIndex_8e157 3 3 (some .int) := ⟨by decide, by decide +kernel, ⟨by decide +kernel, by decide +kernel⟩, q_817, q_111, q_818⟩
