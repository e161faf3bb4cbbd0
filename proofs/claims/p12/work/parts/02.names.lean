def lwg : List Cond := lw_tbl.filter goodWord
theorem gm {w : Cond} (h : w ∈ lw_tbl) (hg : goodWord w = true) : w ∈ lwg := List.mem_filter.mpr ⟨h, hg⟩
def R_Fo : String := "LearnedRanker$Forest"
def F_Fo : u_T := fun k => match k with
  | 0 => ("LearnedRanker$Forest", "trees", "[LLearnedRanker$Tree;", true)
  | _ => ("LearnedRanker$Forest", "size", "I", false)
def t_Fo : Nat → FieldType := fun k => match k with
  | 0 => .array (.object "LearnedRanker$Tree")
  | _ => .int
theorem n_Fo : ∀ a, a < 2 → ∀ b, b < 2 → a ≠ b → (F_Fo a).2.1 ≠ (F_Fo b).2.1 := by decide +kernel
theorem t_Fo_ok : ∀ k, k < 2 → parseFieldDescriptor (F_Fo k).2.2.1 = some (t_Fo k) := by decide +kernel
def R_Gr : String := "LearnedRanker$Grower"
def F_Gr : u_T := fun k => match k with
  | 0 => ("LearnedRanker$Grower", "features", "[[I", true)
  | 1 => ("LearnedRanker$Grower", "rests", "[J", true)
  | 2 => ("LearnedRanker$Grower", "orders", "[[I", true)
  | 3 => ("LearnedRanker$Grower", "samples", "I", false)
  | 4 => ("LearnedRanker$Grower", "nodes", "[I", true)
  | 5 => ("LearnedRanker$Grower", "leastPart", "I", false)
  | 6 => ("LearnedRanker$Grower", "nodeSum", "J", false)
  | 7 => ("LearnedRanker$Grower", "nodeNumber", "I", false)
  | 8 => ("LearnedRanker$Grower", "bestGain", "J", false)
  | 9 => ("LearnedRanker$Grower", "bestFeature", "I", false)
  | _ => ("LearnedRanker$Grower", "bestThreshold", "I", false)
def t_Gr : Nat → FieldType := fun k => match k with
  | 0 => .array (.array .int)
  | 1 => .array .long
  | 2 => .array (.array .int)
  | 3 => .int
  | 4 => .array .int
  | 5 => .int
  | 6 => .long
  | 7 => .int
  | 8 => .long
  | 9 => .int
  | _ => .int
theorem n_Gr : ∀ a, a < 11 → ∀ b, b < 11 → a ≠ b → (F_Gr a).2.1 ≠ (F_Gr b).2.1 := by decide +kernel
theorem t_Gr_ok : ∀ k, k < 11 → parseFieldDescriptor (F_Gr k).2.2.1 = some (t_Gr k) := by decide +kernel
def R_Ju : String := "LearnedRanker$Judgements"
def F_Ju : u_T := fun k => match k with
  | 0 => ("LearnedRanker$Judgements", "grades", "[I", true)
  | _ => ("LearnedRanker$Judgements", "number", "I", false)
def t_Ju : Nat → FieldType := fun k => match k with
  | 0 => .array .int
  | _ => .int
theorem n_Ju : ∀ a, a < 2 → ∀ b, b < 2 → a ≠ b → (F_Ju a).2.1 ≠ (F_Ju b).2.1 := by decide +kernel
theorem t_Ju_ok : ∀ k, k < 2 → parseFieldDescriptor (F_Ju k).2.2.1 = some (t_Ju k) := by decide +kernel
def R_Ra : String := "LearnedRanker$Ranking"
def F_Ra : u_T := fun k => match k with
  | 0 => ("LearnedRanker$Ranking", "documents", "[I", true)
  | 1 => ("LearnedRanker$Ranking", "keys", "[J", true)
  | _ => ("LearnedRanker$Ranking", "length", "I", false)
def t_Ra : Nat → FieldType := fun k => match k with
  | 0 => .array .int
  | 1 => .array .long
  | _ => .int
theorem n_Ra : ∀ a, a < 3 → ∀ b, b < 3 → a ≠ b → (F_Ra a).2.1 ≠ (F_Ra b).2.1 := by decide +kernel
theorem t_Ra_ok : ∀ k, k < 3 → parseFieldDescriptor (F_Ra k).2.2.1 = some (t_Ra k) := by decide +kernel
def R_Sh : String := "LearnedRanker$Shelf"
def F_Sh : u_T := fun k => match k with
  | 0 => ("LearnedRanker$Shelf", "there", "[Z", true)
  | 1 => ("LearnedRanker$Shelf", "qualities", "[I", true)
  | _ => ("LearnedRanker$Shelf", "counts", "[[I", true)
def t_Sh : Nat → FieldType := fun k => match k with
  | 0 => .array .boolean
  | 1 => .array .int
  | _ => .array (.array .int)
theorem n_Sh : ∀ a, a < 3 → ∀ b, b < 3 → a ≠ b → (F_Sh a).2.1 ≠ (F_Sh b).2.1 := by decide +kernel
theorem t_Sh_ok : ∀ k, k < 3 → parseFieldDescriptor (F_Sh k).2.2.1 = some (t_Sh k) := by decide +kernel
def R_Tr : String := "LearnedRanker$Tree"
def F_Tr : u_T := fun k => match k with
  | 0 => ("LearnedRanker$Tree", "features", "[I", true)
  | 1 => ("LearnedRanker$Tree", "thresholds", "[I", true)
  | _ => ("LearnedRanker$Tree", "values", "[J", true)
def t_Tr : Nat → FieldType := fun k => match k with
  | 0 => .array .int
  | 1 => .array .int
  | _ => .array .long
theorem n_Tr : ∀ a, a < 3 → ∀ b, b < 3 → a ≠ b → (F_Tr a).2.1 ≠ (F_Tr b).2.1 := by decide +kernel
theorem t_Tr_ok : ∀ k, k < 3 → parseFieldDescriptor (F_Tr k).2.2.1 = some (t_Tr k) := by decide +kernel
def R_X : String := "LearnedRanker"
def F_X : u_T := fun k => match k with
  | 0 => ("LearnedRanker", "shelf", "LLearnedRanker$Shelf;", true)
  | 1 => ("LearnedRanker", "masks", "[I", true)
  | 2 => ("LearnedRanker", "judgements", "LLearnedRanker$Judgements;", true)
  | 3 => ("LearnedRanker", "forest", "LLearnedRanker$Forest;", true)
  | 4 => ("LearnedRanker", "grower", "LLearnedRanker$Grower;", true)
  | 5 => ("LearnedRanker", "candidates", "LLearnedRanker$Ranking;", true)
  | 6 => ("LearnedRanker", "reranked", "LLearnedRanker$Ranking;", true)
  | 7 => ("LearnedRanker", "measured", "[I", true)
  | _ => ("LearnedRanker", "cutOff", "I", false)
def t_X : Nat → FieldType := fun k => match k with
  | 0 => .object "LearnedRanker$Shelf"
  | 1 => .array .int
  | 2 => .object "LearnedRanker$Judgements"
  | 3 => .object "LearnedRanker$Forest"
  | 4 => .object "LearnedRanker$Grower"
  | 5 => .object "LearnedRanker$Ranking"
  | 6 => .object "LearnedRanker$Ranking"
  | 7 => .array .int
  | _ => .int
theorem n_X : ∀ a, a < 9 → ∀ b, b < 9 → a ≠ b → (F_X a).2.1 ≠ (F_X b).2.1 := by decide +kernel
theorem t_X_ok : ∀ k, k < 9 → parseFieldDescriptor (F_X k).2.2.1 = some (t_X k) := by decide +kernel
def R_M : String := "LearnedRankerModel"
def F_M : u_T := fun k => match k with
  | 0 => ("LearnedRankerModel", "there", "[Z", true)
  | 1 => ("LearnedRankerModel", "quality", "[I", true)
  | 2 => ("LearnedRankerModel", "terms", "[I", true)
  | 3 => ("LearnedRankerModel", "query", "[I", true)
  | 4 => ("LearnedRankerModel", "grade", "[I", true)
  | 5 => ("LearnedRankerModel", "depth", "I", false)
  | 6 => ("LearnedRankerModel", "kind", "[I", true)
  | 7 => ("LearnedRankerModel", "splitBy", "[I", true)
  | 8 => ("LearnedRankerModel", "threshold", "[I", true)
  | 9 => ("LearnedRankerModel", "value", "[J", true)
  | 10 => ("LearnedRankerModel", "trees", "I", false)
  | 11 => ("LearnedRankerModel", "feature", "[I", true)
  | 12 => ("LearnedRankerModel", "node", "[I", true)
  | 13 => ("LearnedRankerModel", "left", "[J", true)
  | 14 => ("LearnedRankerModel", "samples", "I", false)
  | 15 => ("LearnedRankerModel", "candidate", "[I", true)
  | 16 => ("LearnedRankerModel", "learned", "[I", true)
  | 17 => ("LearnedRankerModel", "candidates", "I", false)
  | 18 => ("LearnedRankerModel", "bestGain", "J", false)
  | 19 => ("LearnedRankerModel", "bestFeature", "I", false)
  | _ => ("LearnedRankerModel", "bestThreshold", "I", false)
def t_M : Nat → FieldType := fun k => match k with
  | 0 => .array .boolean
  | 1 => .array .int
  | 2 => .array .int
  | 3 => .array .int
  | 4 => .array .int
  | 5 => .int
  | 6 => .array .int
  | 7 => .array .int
  | 8 => .array .int
  | 9 => .array .long
  | 10 => .int
  | 11 => .array .int
  | 12 => .array .int
  | 13 => .array .long
  | 14 => .int
  | 15 => .array .int
  | 16 => .array .int
  | 17 => .int
  | 18 => .long
  | 19 => .int
  | _ => .int
theorem n_M : ∀ a, a < 21 → ∀ b, b < 21 → a ≠ b → (F_M a).2.1 ≠ (F_M b).2.1 := by decide +kernel
theorem t_M_ok : ∀ k, k < 21 → parseFieldDescriptor (F_M k).2.2.1 = some (t_M k) := by decide +kernel
def R_Arrays : String := "java/util/Arrays"
def R_Math : String := "java/lang/Math"
def R_Integer : String := "java/lang/Integer"
abbrev vwC : List vw_C := [(R_Fo, F_Fo, 2), (R_Gr, F_Gr, 11), (R_Ju, F_Ju, 2), (R_Ra, F_Ra, 3), (R_Sh, F_Sh, 3), (R_Tr, F_Tr, 3), (R_X, F_X, 9), (R_M, F_M, 21)]
abbrev y_X_init : MethodName := ⟨"LearnedRanker", "<init>", "()V"⟩
abbrev b_X_init : ByteArray := prog_1_method_1_code
abbrev y_Object_init : MethodName := ⟨"java/lang/Object", "<init>", "()V"⟩
abbrev b_Object_init : ByteArray := object_method_1_code
abbrev y_Sh_init : MethodName := ⟨"LearnedRanker$Shelf", "<init>", "()V"⟩
abbrev b_Sh_init : ByteArray := prog_6_method_1_code
abbrev y_Ju_init : MethodName := ⟨"LearnedRanker$Judgements", "<init>", "()V"⟩
abbrev b_Ju_init : ByteArray := prog_4_method_1_code
abbrev y_Arrays_fill : MethodName := ⟨"java/util/Arrays", "fill", "([II)V"⟩
abbrev b_Arrays_fill : ByteArray := prog_12_method_103_code
abbrev y_Fo_init : MethodName := ⟨"LearnedRanker$Forest", "<init>", "()V"⟩
abbrev b_Fo_init : ByteArray := prog_2_method_1_code
abbrev y_Tr_init : MethodName := ⟨"LearnedRanker$Tree", "<init>", "()V"⟩
abbrev b_Tr_init : ByteArray := prog_7_method_1_code
abbrev y_Gr_init : MethodName := ⟨"LearnedRanker$Grower", "<init>", "()V"⟩
abbrev b_Gr_init : ByteArray := prog_3_method_1_code
abbrev y_Ra_init : MethodName := ⟨"LearnedRanker$Ranking", "<init>", "()V"⟩
abbrev b_Ra_init : ByteArray := prog_5_method_1_code
abbrev y_X_document : MethodName := ⟨"LearnedRanker", "document", "(II)I"⟩
abbrev b_X_document : ByteArray := prog_1_method_2_code
abbrev y_X_within : MethodName := ⟨"LearnedRanker", "within", "(II)Z"⟩
abbrev b_X_within : ByteArray := prog_1_method_16_code
abbrev y_Sh_put : MethodName := ⟨"LearnedRanker$Shelf", "put", "(II)V"⟩
abbrev b_Sh_put : ByteArray := prog_6_method_3_code
abbrev y_X_remove : MethodName := ⟨"LearnedRanker", "remove", "(I)I"⟩
abbrev b_X_remove : ByteArray := prog_1_method_3_code
abbrev y_Sh_holds : MethodName := ⟨"LearnedRanker$Shelf", "holds", "(I)Z"⟩
abbrev b_Sh_holds : ByteArray := prog_6_method_2_code
abbrev y_Sh_drop : MethodName := ⟨"LearnedRanker$Shelf", "drop", "(I)V"⟩
abbrev b_Sh_drop : ByteArray := prog_6_method_4_code
abbrev y_X_term : MethodName := ⟨"LearnedRanker", "term", "(III)I"⟩
abbrev b_X_term : ByteArray := prog_1_method_4_code
abbrev y_Sh_setCount : MethodName := ⟨"LearnedRanker$Shelf", "setCount", "(III)V"⟩
abbrev b_Sh_setCount : ByteArray := prog_6_method_5_code
abbrev y_X_query : MethodName := ⟨"LearnedRanker", "query", "(II)I"⟩
abbrev b_X_query : ByteArray := prog_1_method_5_code
abbrev y_X_isQuery : MethodName := ⟨"LearnedRanker", "isQuery", "(I)Z"⟩
abbrev b_X_isQuery : ByteArray := prog_1_method_17_code
abbrev y_X_judge : MethodName := ⟨"LearnedRanker", "judge", "(III)I"⟩
abbrev b_X_judge : ByteArray := prog_1_method_6_code
abbrev y_Ju_gradeOf : MethodName := ⟨"LearnedRanker$Judgements", "gradeOf", "(II)I"⟩
abbrev b_Ju_gradeOf : ByteArray := prog_4_method_3_code
abbrev y_Ju_number : MethodName := ⟨"LearnedRanker$Judgements", "number", "()I"⟩
abbrev b_Ju_number : ByteArray := prog_4_method_2_code
abbrev y_Ju_set : MethodName := ⟨"LearnedRanker$Judgements", "set", "(III)V"⟩
abbrev b_Ju_set : ByteArray := prog_4_method_4_code
abbrev y_X_depth : MethodName := ⟨"LearnedRanker", "depth", "(I)I"⟩
abbrev b_X_depth : ByteArray := prog_1_method_7_code
abbrev y_X_train : MethodName := ⟨"LearnedRanker", "train", "(III)I"⟩
abbrev b_X_train : ByteArray := prog_1_method_8_code
abbrev y_Fo_clear : MethodName := ⟨"LearnedRanker$Forest", "clear", "()V"⟩
abbrev b_Fo_clear : ByteArray := prog_2_method_2_code
abbrev y_X_gatherSamples : MethodName := ⟨"LearnedRanker", "gatherSamples", "()V"⟩
abbrev b_X_gatherSamples : ByteArray := prog_1_method_20_code
abbrev y_Gr_clear : MethodName := ⟨"LearnedRanker$Grower", "clear", "()V"⟩
abbrev b_Gr_clear : ByteArray := prog_3_method_2_code
abbrev y_X_isLive : MethodName := ⟨"LearnedRanker", "isLive", "(II)Z"⟩
abbrev b_X_isLive : ByteArray := prog_1_method_18_code
abbrev y_Sh_measure : MethodName := ⟨"LearnedRanker$Shelf", "measure", "(II[I)V"⟩
abbrev b_Sh_measure : ByteArray := prog_6_method_8_code
abbrev y_Math_max : MethodName := ⟨"java/lang/Math", "max", "(II)I"⟩
abbrev b_Math_max : ByteArray := prog_11_method_65_code
abbrev y_Sh_sizeOf : MethodName := ⟨"LearnedRanker$Shelf", "sizeOf", "(I)I"⟩
abbrev b_Sh_sizeOf : ByteArray := prog_6_method_9_code
abbrev y_Gr_addSample : MethodName := ⟨"LearnedRanker$Grower", "addSample", "([II)V"⟩
abbrev b_Gr_addSample : ByteArray := prog_3_method_4_code
abbrev y_Gr_insertInOrder : MethodName := ⟨"LearnedRanker$Grower", "insertInOrder", "(II)V"⟩
abbrev b_Gr_insertInOrder : ByteArray := prog_3_method_5_code
abbrev y_Gr_hasSamples : MethodName := ⟨"LearnedRanker$Grower", "hasSamples", "()Z"⟩
abbrev b_Gr_hasSamples : ByteArray := prog_3_method_3_code
abbrev y_Fo_nextTree : MethodName := ⟨"LearnedRanker$Forest", "nextTree", "()LLearnedRanker$Tree;"⟩
abbrev b_Fo_nextTree : ByteArray := prog_2_method_5_code
abbrev y_Math_min : MethodName := ⟨"java/lang/Math", "min", "(II)I"⟩
abbrev b_Math_min : ByteArray := prog_11_method_69_code
abbrev y_Tr_clear : MethodName := ⟨"LearnedRanker$Tree", "clear", "()V"⟩
abbrev b_Tr_clear : ByteArray := prog_7_method_2_code
abbrev y_Gr_grow : MethodName := ⟨"LearnedRanker$Grower", "grow", "(LLearnedRanker$Tree;II)V"⟩
abbrev b_Gr_grow : ByteArray := prog_3_method_6_code
abbrev y_Gr_sumUp : MethodName := ⟨"LearnedRanker$Grower", "sumUp", "(I)V"⟩
abbrev b_Gr_sumUp : ByteArray := prog_3_method_7_code
abbrev y_Gr_findSplit : MethodName := ⟨"LearnedRanker$Grower", "findSplit", "(I)Z"⟩
abbrev b_Gr_findSplit : ByteArray := prog_3_method_9_code
abbrev y_Gr_worth : MethodName := ⟨"LearnedRanker$Grower", "worth", "(JI)J"⟩
abbrev b_Gr_worth : ByteArray := prog_3_method_12_code
abbrev y_Gr_share : MethodName := ⟨"LearnedRanker$Grower", "share", "(I)I"⟩
abbrev b_Gr_share : ByteArray := prog_3_method_13_code
abbrev y_Gr_walkThresholds : MethodName := ⟨"LearnedRanker$Grower", "walkThresholds", "(II)V"⟩
abbrev b_Gr_walkThresholds : ByteArray := prog_3_method_10_code
abbrev y_Gr_weighSplit : MethodName := ⟨"LearnedRanker$Grower", "weighSplit", "(IIJI)V"⟩
abbrev b_Gr_weighSplit : ByteArray := prog_3_method_11_code
abbrev y_Tr_makeSplit : MethodName := ⟨"LearnedRanker$Tree", "makeSplit", "(III)V"⟩
abbrev b_Tr_makeSplit : ByteArray := prog_7_method_4_code
abbrev y_Gr_sendOn : MethodName := ⟨"LearnedRanker$Grower", "sendOn", "(LLearnedRanker$Tree;I)V"⟩
abbrev b_Gr_sendOn : ByteArray := prog_3_method_8_code
abbrev y_Tr_partFor : MethodName := ⟨"LearnedRanker$Tree", "partFor", "(I[I)I"⟩
abbrev b_Tr_partFor : ByteArray := prog_7_method_13_code
abbrev y_Tr_makeLeaf : MethodName := ⟨"LearnedRanker$Tree", "makeLeaf", "(IJ)V"⟩
abbrev b_Tr_makeLeaf : ByteArray := prog_7_method_3_code
abbrev y_Tr_valueFor : MethodName := ⟨"LearnedRanker$Tree", "valueFor", "([I)J"⟩
abbrev b_Tr_valueFor : ByteArray := prog_7_method_14_code
abbrev y_Tr_isSplit : MethodName := ⟨"LearnedRanker$Tree", "isSplit", "(I)Z"⟩
abbrev b_Tr_isSplit : ByteArray := prog_7_method_7_code
abbrev y_Fo_leaves : MethodName := ⟨"LearnedRanker$Forest", "leaves", "()I"⟩
abbrev b_Fo_leaves : ByteArray := prog_2_method_6_code
abbrev y_Tr_leaves : MethodName := ⟨"LearnedRanker$Tree", "leaves", "()I"⟩
abbrev b_Tr_leaves : ByteArray := prog_7_method_8_code
abbrev y_Tr_isLeaf : MethodName := ⟨"LearnedRanker$Tree", "isLeaf", "(I)Z"⟩
abbrev b_Tr_isLeaf : ByteArray := prog_7_method_6_code
abbrev y_X_feature : MethodName := ⟨"LearnedRanker", "feature", "(III)I"⟩
abbrev b_X_feature : ByteArray := prog_1_method_9_code
abbrev y_X_ranked : MethodName := ⟨"LearnedRanker", "ranked", "(IIZ)I"⟩
abbrev b_X_ranked : ByteArray := prog_1_method_10_code
abbrev y_X_rankAnew : MethodName := ⟨"LearnedRanker", "rankAnew", "(I)LLearnedRanker$Ranking;"⟩
abbrev b_X_rankAnew : ByteArray := prog_1_method_23_code
abbrev y_X_pickCandidates : MethodName := ⟨"LearnedRanker", "pickCandidates", "(I)LLearnedRanker$Ranking;"⟩
abbrev b_X_pickCandidates : ByteArray := prog_1_method_22_code
abbrev y_Ra_clear : MethodName := ⟨"LearnedRanker$Ranking", "clear", "()V"⟩
abbrev b_Ra_clear : ByteArray := prog_5_method_2_code
abbrev y_Ra_insert : MethodName := ⟨"LearnedRanker$Ranking", "insert", "(IJ)V"⟩
abbrev b_Ra_insert : ByteArray := prog_5_method_5_code
abbrev y_Ra_cutAfter : MethodName := ⟨"LearnedRanker$Ranking", "cutAfter", "(I)V"⟩
abbrev b_Ra_cutAfter : ByteArray := prog_5_method_6_code
abbrev y_Ra_length : MethodName := ⟨"LearnedRanker$Ranking", "length", "()I"⟩
abbrev b_Ra_length : ByteArray := prog_5_method_3_code
abbrev y_Ra_documentAt : MethodName := ⟨"LearnedRanker$Ranking", "documentAt", "(I)I"⟩
abbrev b_Ra_documentAt : ByteArray := prog_5_method_4_code
abbrev y_X_scoreNow : MethodName := ⟨"LearnedRanker", "scoreNow", "(II)J"⟩
abbrev b_X_scoreNow : ByteArray := prog_1_method_21_code
abbrev y_Fo_valueFor : MethodName := ⟨"LearnedRanker$Forest", "valueFor", "([I)J"⟩
abbrev b_Fo_valueFor : ByteArray := prog_2_method_8_code
abbrev y_X_score : MethodName := ⟨"LearnedRanker", "score", "(II)J"⟩
abbrev b_X_score : ByteArray := prog_1_method_11_code
abbrev y_X_merit : MethodName := ⟨"LearnedRanker", "merit", "(IZ)J"⟩
abbrev b_X_merit : ByteArray := prog_1_method_12_code
abbrev y_X_rest : MethodName := ⟨"LearnedRanker", "rest", "(I)J"⟩
abbrev b_X_rest : ByteArray := prog_1_method_13_code
abbrev y_Ju_pairOf : MethodName := ⟨"LearnedRanker$Judgements", "pairOf", "(I)I"⟩
abbrev b_Ju_pairOf : ByteArray := prog_4_method_5_code
abbrev y_X_node : MethodName := ⟨"LearnedRanker", "node", "(III)J"⟩
abbrev b_X_node : ByteArray := prog_1_method_14_code
abbrev y_Fo_size : MethodName := ⟨"LearnedRanker$Forest", "size", "()I"⟩
abbrev b_Fo_size : ByteArray := prog_2_method_3_code
abbrev y_Fo_treeAt : MethodName := ⟨"LearnedRanker$Forest", "treeAt", "(I)LLearnedRanker$Tree;"⟩
abbrev b_Fo_treeAt : ByteArray := prog_2_method_4_code
abbrev y_Tr_isAbsent : MethodName := ⟨"LearnedRanker$Tree", "isAbsent", "(I)Z"⟩
abbrev b_Tr_isAbsent : ByteArray := prog_7_method_5_code
abbrev y_Tr_featureAt : MethodName := ⟨"LearnedRanker$Tree", "featureAt", "(I)I"⟩
abbrev b_Tr_featureAt : ByteArray := prog_7_method_10_code
abbrev y_Tr_thresholdAt : MethodName := ⟨"LearnedRanker$Tree", "thresholdAt", "(I)I"⟩
abbrev b_Tr_thresholdAt : ByteArray := prog_7_method_11_code
abbrev y_Tr_valueAt : MethodName := ⟨"LearnedRanker$Tree", "valueAt", "(I)J"⟩
abbrev b_Tr_valueAt : ByteArray := prog_7_method_12_code
abbrev y_X_count : MethodName := ⟨"LearnedRanker", "count", "(I)I"⟩
abbrev b_X_count : ByteArray := prog_1_method_15_code
abbrev y_Integer_bitCount : MethodName := ⟨"java/lang/Integer", "bitCount", "(I)I"⟩
abbrev b_Integer_bitCount : ByteArray := prog_10_method_49_code
abbrev y_Sh_number : MethodName := ⟨"LearnedRanker$Shelf", "number", "()I"⟩
abbrev b_Sh_number : ByteArray := prog_6_method_6_code
abbrev y_X_liveJudgements : MethodName := ⟨"LearnedRanker", "liveJudgements", "()I"⟩
abbrev b_X_liveJudgements : ByteArray := prog_1_method_19_code
abbrev y_Fo_splits : MethodName := ⟨"LearnedRanker$Forest", "splits", "()I"⟩
abbrev b_Fo_splits : ByteArray := prog_2_method_7_code
abbrev y_Tr_splits : MethodName := ⟨"LearnedRanker$Tree", "splits", "()I"⟩
abbrev b_Tr_splits : ByteArray := prog_7_method_9_code
abbrev y_Sh_sumOfSizes : MethodName := ⟨"LearnedRanker$Shelf", "sumOfSizes", "()I"⟩
abbrev b_Sh_sumOfSizes : ByteArray := prog_6_method_7_code
abbrev y_Ju_sumOfGrades : MethodName := ⟨"LearnedRanker$Judgements", "sumOfGrades", "()I"⟩
abbrev b_Ju_sumOfGrades : ByteArray := prog_4_method_6_code
abbrev y_M_init : MethodName := ⟨"LearnedRankerModel", "<init>", "()V"⟩
abbrev b_M_init : ByteArray := prog_9_method_1_code
abbrev y_M_document : MethodName := ⟨"LearnedRankerModel", "document", "(II)I"⟩
abbrev b_M_document : ByteArray := prog_9_method_4_code
abbrev y_M_in : MethodName := ⟨"LearnedRankerModel", "in", "(II)Z"⟩
abbrev b_M_in : ByteArray := prog_9_method_2_code
abbrev y_M_remove : MethodName := ⟨"LearnedRankerModel", "remove", "(I)I"⟩
abbrev b_M_remove : ByteArray := prog_9_method_5_code
abbrev y_M_isThere : MethodName := ⟨"LearnedRankerModel", "isThere", "(I)Z"⟩
abbrev b_M_isThere : ByteArray := prog_9_method_3_code
abbrev y_M_term : MethodName := ⟨"LearnedRankerModel", "term", "(III)I"⟩
abbrev b_M_term : ByteArray := prog_9_method_6_code
abbrev y_M_query : MethodName := ⟨"LearnedRankerModel", "query", "(II)I"⟩
abbrev b_M_query : ByteArray := prog_9_method_7_code
abbrev y_M_judge : MethodName := ⟨"LearnedRankerModel", "judge", "(III)I"⟩
abbrev b_M_judge : ByteArray := prog_9_method_9_code
abbrev y_M_judgements : MethodName := ⟨"LearnedRankerModel", "judgements", "()I"⟩
abbrev b_M_judgements : ByteArray := prog_9_method_8_code
abbrev y_M_depth : MethodName := ⟨"LearnedRankerModel", "depth", "(I)I"⟩
abbrev b_M_depth : ByteArray := prog_9_method_10_code
abbrev y_M_train : MethodName := ⟨"LearnedRankerModel", "train", "(III)I"⟩
abbrev b_M_train : ByteArray := prog_9_method_19_code
abbrev y_M_featureOf : MethodName := ⟨"LearnedRankerModel", "featureOf", "(III)I"⟩
abbrev b_M_featureOf : ByteArray := prog_9_method_11_code
abbrev y_M_grow : MethodName := ⟨"LearnedRankerModel", "grow", "(III)V"⟩
abbrev b_M_grow : ByteArray := prog_9_method_17_code
abbrev y_M_growNode : MethodName := ⟨"LearnedRankerModel", "growNode", "(IIII)V"⟩
abbrev b_M_growNode : ByteArray := prog_9_method_16_code
abbrev y_M_findSplit : MethodName := ⟨"LearnedRankerModel", "findSplit", "(II)V"⟩
abbrev b_M_findSplit : ByteArray := prog_9_method_15_code
abbrev y_M_part : MethodName := ⟨"LearnedRankerModel", "part", "(IIII)J"⟩
abbrev b_M_part : ByteArray := prog_9_method_13_code
abbrev y_M_share : MethodName := ⟨"LearnedRankerModel", "share", "(I)I"⟩
abbrev b_M_share : ByteArray := prog_9_method_12_code
abbrev y_M_size : MethodName := ⟨"LearnedRankerModel", "size", "(IIIZ)I"⟩
abbrev b_M_size : ByteArray := prog_9_method_14_code
abbrev y_M_nodes : MethodName := ⟨"LearnedRankerModel", "nodes", "(I)I"⟩
abbrev b_M_nodes : ByteArray := prog_9_method_18_code
abbrev y_M_feature : MethodName := ⟨"LearnedRankerModel", "feature", "(III)I"⟩
abbrev b_M_feature : ByteArray := prog_9_method_24_code
abbrev y_M_ranked : MethodName := ⟨"LearnedRankerModel", "ranked", "(IIZ)I"⟩
abbrev b_M_ranked : ByteArray := prog_9_method_25_code
abbrev y_M_rank : MethodName := ⟨"LearnedRankerModel", "rank", "(I)V"⟩
abbrev b_M_rank : ByteArray := prog_9_method_23_code
abbrev y_M_found : MethodName := ⟨"LearnedRankerModel", "found", "(II)Z"⟩
abbrev b_M_found : ByteArray := prog_9_method_22_code
abbrev y_M_plain : MethodName := ⟨"LearnedRankerModel", "plain", "(II)I"⟩
abbrev b_M_plain : ByteArray := prog_9_method_21_code
abbrev y_M_scoreOf : MethodName := ⟨"LearnedRankerModel", "scoreOf", "(II)J"⟩
abbrev b_M_scoreOf : ByteArray := prog_9_method_20_code
abbrev y_M_score : MethodName := ⟨"LearnedRankerModel", "score", "(II)J"⟩
abbrev b_M_score : ByteArray := prog_9_method_26_code
abbrev y_M_merit : MethodName := ⟨"LearnedRankerModel", "merit", "(IZ)J"⟩
abbrev b_M_merit : ByteArray := prog_9_method_27_code
abbrev y_M_rest : MethodName := ⟨"LearnedRankerModel", "rest", "(I)J"⟩
abbrev b_M_rest : ByteArray := prog_9_method_28_code
abbrev y_M_node : MethodName := ⟨"LearnedRankerModel", "node", "(III)J"⟩
abbrev b_M_node : ByteArray := prog_9_method_29_code
abbrev y_M_count : MethodName := ⟨"LearnedRankerModel", "count", "(I)I"⟩
abbrev b_M_count : ByteArray := prog_9_method_30_code
set_option maxRecDepth 10000 in
theorem w_0 : Jvm.Cond.initialized "LearnedRankerLaw" ∈ lwg := gm (List.mem_append_right _ (List.mem_append_left _ (List.mem_of_getElem? (i := 0) rfl))) rfl
set_option maxRecDepth 10000 in
theorem w_1 : Jvm.Cond.initialized "LearnedRanker" ∈ lwg := gm (List.mem_append_right _ (List.mem_append_left _ (List.mem_of_getElem? (i := 1) rfl))) rfl
set_option maxRecDepth 10000 in
theorem w_2 : Jvm.Cond.initialized "LearnedRanker$Shelf" ∈ lwg := gm (List.mem_append_right _ (List.mem_append_left _ (List.mem_of_getElem? (i := 2) rfl))) rfl
set_option maxRecDepth 10000 in
theorem w_3 : Jvm.Cond.initialized "LearnedRanker$Judgements" ∈ lwg := gm (List.mem_append_right _ (List.mem_append_left _ (List.mem_of_getElem? (i := 3) rfl))) rfl
set_option maxRecDepth 10000 in
theorem w_4 : Jvm.Cond.initialized "java/util/Arrays" ∈ lwg := gm (List.mem_append_right _ (List.mem_append_left _ (List.mem_of_getElem? (i := 4) rfl))) rfl
set_option maxRecDepth 10000 in
theorem w_5 : Jvm.Cond.initialized "LearnedRanker$Forest" ∈ lwg := gm (List.mem_append_right _ (List.mem_append_left _ (List.mem_of_getElem? (i := 5) rfl))) rfl
set_option maxRecDepth 10000 in
theorem w_6 : Jvm.Cond.initialized "LearnedRanker$Tree" ∈ lwg := gm (List.mem_append_right _ (List.mem_append_left _ (List.mem_of_getElem? (i := 6) rfl))) rfl
set_option maxRecDepth 10000 in
theorem w_7 : Jvm.Cond.initialized "LearnedRanker$Grower" ∈ lwg := gm (List.mem_append_right _ (List.mem_append_left _ (List.mem_of_getElem? (i := 7) rfl))) rfl
set_option maxRecDepth 10000 in
theorem w_8 : Jvm.Cond.initialized "LearnedRanker$Ranking" ∈ lwg := gm (List.mem_append_right _ (List.mem_append_left _ (List.mem_of_getElem? (i := 8) rfl))) rfl
set_option maxRecDepth 10000 in
theorem w_9 : Jvm.Cond.initialized "LearnedRankerModel" ∈ lwg := gm (List.mem_append_right _ (List.mem_append_left _ (List.mem_of_getElem? (i := 9) rfl))) rfl
set_option maxRecDepth 10000 in
theorem w_10 : Jvm.Cond.initialized "java/lang/Math" ∈ lwg := gm (List.mem_append_right _ (List.mem_append_left _ (List.mem_of_getElem? (i := 10) rfl))) rfl
set_option maxRecDepth 10000 in
theorem w_11 : Jvm.Cond.initialized "java/lang/Integer" ∈ lwg := gm (List.mem_append_right _ (List.mem_append_left _ (List.mem_of_getElem? (i := 11) rfl))) rfl
set_option maxRecDepth 10000 in
theorem w_12 : Jvm.Cond.classLink "LearnedRankerLaw" (7 : Nat) "LearnedRanker" ∈ lwg := gm (List.mem_append_right _ (List.mem_append_left _ (List.mem_of_getElem? (i := 12) rfl))) rfl
set_option maxRecDepth 10000 in
theorem w_13 : Jvm.Cond.instantiable "LearnedRanker" (9 : Nat) ∈ lwg := gm (List.mem_append_right _ (List.mem_append_left _ (List.mem_of_getElem? (i := 13) rfl))) rfl
set_option maxRecDepth 10000 in
theorem w_14 : Jvm.Cond.methodLink "LearnedRankerLaw" (9 : Nat) y_X_init ∈ lwg := gm (List.mem_append_right _ (List.mem_append_left _ (List.mem_of_getElem? (i := 14) rfl))) rfl
set_option maxRecDepth 10000 in
theorem w_15 : Jvm.Cond.instanceMethod y_X_init ∈ lwg := gm (List.mem_append_right _ (List.mem_append_left _ (List.mem_of_getElem? (i := 15) rfl))) rfl
set_option maxRecDepth 10000 in
theorem w_16 : Jvm.Cond.code y_X_init prog_1_method_1_code (1 : Nat) (Option.none : Option Jvm.ClassFile.FieldType) ∈ lwg := gm (List.mem_append_right _ (List.mem_append_left _ (List.mem_of_getElem? (i := 16) rfl))) rfl
set_option maxRecDepth 10000 in
theorem w_17 : Jvm.Cond.methodLink "LearnedRanker" (1 : Nat) y_Object_init ∈ lwg := gm (List.mem_append_right _ (List.mem_append_left _ (List.mem_of_getElem? (i := 17) rfl))) rfl
set_option maxRecDepth 10000 in
theorem w_18 : Jvm.Cond.instanceMethod y_Object_init ∈ lwg := gm (List.mem_append_right _ (List.mem_append_left _ (List.mem_of_getElem? (i := 18) rfl))) rfl
set_option maxRecDepth 10000 in
theorem w_19 : Jvm.Cond.code y_Object_init object_method_1_code (1 : Nat) (Option.none : Option Jvm.ClassFile.FieldType) ∈ lwg := gm (List.mem_append_right _ (List.mem_append_left _ (List.mem_of_getElem? (i := 19) rfl))) rfl
set_option maxRecDepth 10000 in
theorem w_20 : Jvm.Cond.classLink "LearnedRanker" (7 : Nat) "LearnedRanker$Shelf" ∈ lwg := gm (List.mem_append_right _ (List.mem_append_left _ (List.mem_of_getElem? (i := 20) rfl))) rfl
set_option maxRecDepth 10000 in
theorem w_21 : Jvm.Cond.instantiable "LearnedRanker$Shelf" (3 : Nat) ∈ lwg := gm (List.mem_append_right _ (List.mem_append_left _ (List.mem_of_getElem? (i := 21) rfl))) rfl
set_option maxRecDepth 10000 in
theorem w_22 : Jvm.Cond.methodLinkNest "LearnedRanker" (9 : Nat) y_Sh_init "LearnedRanker" ∈ lw_tbl := List.mem_append_right _ (List.mem_append_left _ (List.mem_of_getElem? (i := 22) rfl))
set_option maxRecDepth 10000 in
theorem w_23 : Jvm.Cond.instanceMethod y_Sh_init ∈ lwg := gm (List.mem_append_right _ (List.mem_append_left _ (List.mem_of_getElem? (i := 23) rfl))) rfl
set_option maxRecDepth 10000 in
theorem w_24 : Jvm.Cond.code y_Sh_init prog_6_method_1_code (1 : Nat) (Option.none : Option Jvm.ClassFile.FieldType) ∈ lwg := gm (List.mem_append_right _ (List.mem_append_left _ (List.mem_of_getElem? (i := 24) rfl))) rfl
set_option maxRecDepth 10000 in
theorem w_25 : Jvm.Cond.methodLink "LearnedRanker$Shelf" (3 : Nat) y_Object_init ∈ lwg := gm (List.mem_append_right _ (List.mem_append_left _ (List.mem_of_getElem? (i := 25) rfl))) rfl
set_option maxRecDepth 10000 in
theorem w_26 : Jvm.Cond.classLink "LearnedRanker$Shelf" (19 : Nat) "[[I" ∈ lwg := gm (List.mem_append_right _ (List.mem_append_left _ (List.mem_of_getElem? (i := 26) rfl))) rfl
set_option maxRecDepth 10000 in
theorem w_27 : Jvm.Cond.arrayOver (Jvm.ClassFile.FieldType.array Jvm.ClassFile.FieldType.int) ∈ lw_tbl := List.mem_append_right _ (List.mem_append_left _ (List.mem_of_getElem? (i := 27) rfl))
set_option maxRecDepth 10000 in
theorem w_28 : Jvm.Cond.fieldLink "LearnedRanker$Shelf" (9 : Nat) "LearnedRanker$Shelf" "there" "[Z" ∈ lwg := gm (List.mem_append_right _ (List.mem_append_left _ (List.mem_of_getElem? (i := 28) rfl))) rfl
set_option maxRecDepth 10000 in
theorem w_29 : Jvm.Cond.fieldLink "LearnedRanker$Shelf" (15 : Nat) "LearnedRanker$Shelf" "qualities" "[I" ∈ lwg := gm (List.mem_append_right _ (List.mem_append_left _ (List.mem_of_getElem? (i := 29) rfl))) rfl
set_option maxRecDepth 10000 in
theorem w_30 : Jvm.Cond.fieldLink "LearnedRanker$Shelf" (21 : Nat) "LearnedRanker$Shelf" "counts" "[[I" ∈ lwg := gm (List.mem_append_right _ (List.mem_append_left _ (List.mem_of_getElem? (i := 30) rfl))) rfl
set_option maxRecDepth 10000 in
theorem w_31 : Jvm.Cond.laysFinal "LearnedRanker$Shelf" "LearnedRanker$Shelf" "there" "[Z" ∈ lwg := gm (List.mem_append_right _ (List.mem_append_left _ (List.mem_of_getElem? (i := 31) rfl))) rfl
set_option maxRecDepth 10000 in
theorem w_32 : Jvm.Cond.soleField "LearnedRanker$Shelf" "there" ∈ lwg := gm (List.mem_append_right _ (List.mem_append_left _ (List.mem_of_getElem? (i := 32) rfl))) rfl
set_option maxRecDepth 10000 in
theorem w_33 : Jvm.Cond.laysFinal "LearnedRanker$Shelf" "LearnedRanker$Shelf" "qualities" "[I" ∈ lwg := gm (List.mem_append_right _ (List.mem_append_left _ (List.mem_of_getElem? (i := 33) rfl))) rfl
set_option maxRecDepth 10000 in
theorem w_34 : Jvm.Cond.soleField "LearnedRanker$Shelf" "qualities" ∈ lwg := gm (List.mem_append_right _ (List.mem_append_left _ (List.mem_of_getElem? (i := 34) rfl))) rfl
set_option maxRecDepth 10000 in
theorem w_35 : Jvm.Cond.laysFinal "LearnedRanker$Shelf" "LearnedRanker$Shelf" "counts" "[[I" ∈ lwg := gm (List.mem_append_right _ (List.mem_append_left _ (List.mem_of_getElem? (i := 35) rfl))) rfl
set_option maxRecDepth 10000 in
theorem w_36 : Jvm.Cond.soleField "LearnedRanker$Shelf" "counts" ∈ lwg := gm (List.mem_append_right _ (List.mem_append_left _ (List.mem_of_getElem? (i := 36) rfl))) rfl
set_option maxRecDepth 10000 in
theorem w_37 : Jvm.Cond.superclass "LearnedRanker$Shelf" "java/lang/Object" ∈ lwg := gm (List.mem_append_right _ (List.mem_append_left _ (List.mem_of_getElem? (i := 37) rfl))) rfl
set_option maxRecDepth 10000 in
theorem w_38 : Jvm.Cond.arrayClass Jvm.ClassFile.FieldType.boolean ∈ lwg := gm (List.mem_append_right _ (List.mem_append_left _ (List.mem_of_getElem? (i := 38) rfl))) rfl
set_option maxRecDepth 10000 in
theorem w_39 : Jvm.Cond.arrayClass Jvm.ClassFile.FieldType.int ∈ lwg := gm (List.mem_append_right _ (List.mem_append_left _ (List.mem_of_getElem? (i := 39) rfl))) rfl
set_option maxRecDepth 10000 in
theorem w_40 : Jvm.Cond.classLink "LearnedRanker" (20 : Nat) "LearnedRanker$Judgements" ∈ lwg := gm (List.mem_append_right _ (List.mem_append_left _ (List.mem_of_getElem? (i := 40) rfl))) rfl
set_option maxRecDepth 10000 in
theorem w_41 : Jvm.Cond.instantiable "LearnedRanker$Judgements" (2 : Nat) ∈ lwg := gm (List.mem_append_right _ (List.mem_append_left _ (List.mem_of_getElem? (i := 41) rfl))) rfl
set_option maxRecDepth 10000 in
theorem w_42 : Jvm.Cond.methodLink "LearnedRanker" (22 : Nat) y_Ju_init ∈ lwg := gm (List.mem_append_right _ (List.mem_append_left _ (List.mem_of_getElem? (i := 42) rfl))) rfl
set_option maxRecDepth 10000 in
theorem w_43 : Jvm.Cond.instanceMethod y_Ju_init ∈ lwg := gm (List.mem_append_right _ (List.mem_append_left _ (List.mem_of_getElem? (i := 43) rfl))) rfl
set_option maxRecDepth 10000 in
theorem w_44 : Jvm.Cond.code y_Ju_init prog_4_method_1_code (1 : Nat) (Option.none : Option Jvm.ClassFile.FieldType) ∈ lwg := gm (List.mem_append_right _ (List.mem_append_left _ (List.mem_of_getElem? (i := 44) rfl))) rfl
set_option maxRecDepth 10000 in
theorem w_45 : Jvm.Cond.methodLink "LearnedRanker$Judgements" (3 : Nat) y_Object_init ∈ lwg := gm (List.mem_append_right _ (List.mem_append_left _ (List.mem_of_getElem? (i := 45) rfl))) rfl
set_option maxRecDepth 10000 in
theorem w_46 : Jvm.Cond.methodLink "LearnedRanker$Judgements" (19 : Nat) y_Arrays_fill ∈ lwg := gm (List.mem_append_right _ (List.mem_append_left _ (List.mem_of_getElem? (i := 46) rfl))) rfl
set_option maxRecDepth 10000 in
theorem w_47 : Jvm.Cond.static y_Arrays_fill ∈ lwg := gm (List.mem_append_right _ (List.mem_append_left _ (List.mem_of_getElem? (i := 47) rfl))) rfl
set_option maxRecDepth 10000 in
theorem w_48 : Jvm.Cond.code y_Arrays_fill prog_12_method_103_code (4 : Nat) (Option.none : Option Jvm.ClassFile.FieldType) ∈ lwg := gm (List.mem_append_right _ (List.mem_append_left _ (List.mem_of_getElem? (i := 48) rfl))) rfl
set_option maxRecDepth 10000 in
theorem w_49 : Jvm.Cond.fieldLink "LearnedRanker$Judgements" (9 : Nat) "LearnedRanker$Judgements" "grades" "[I" ∈ lwg := gm (List.mem_append_right _ (List.mem_append_left _ (List.mem_of_getElem? (i := 49) rfl))) rfl
set_option maxRecDepth 10000 in
theorem w_50 : Jvm.Cond.fieldLink "LearnedRanker$Judgements" (15 : Nat) "LearnedRanker$Judgements" "number" "I" ∈ lwg := gm (List.mem_append_right _ (List.mem_append_left _ (List.mem_of_getElem? (i := 50) rfl))) rfl
set_option maxRecDepth 10000 in
theorem w_51 : Jvm.Cond.laysFinal "LearnedRanker$Judgements" "LearnedRanker$Judgements" "grades" "[I" ∈ lwg := gm (List.mem_append_right _ (List.mem_append_left _ (List.mem_of_getElem? (i := 51) rfl))) rfl
set_option maxRecDepth 10000 in
theorem w_52 : Jvm.Cond.soleField "LearnedRanker$Judgements" "grades" ∈ lwg := gm (List.mem_append_right _ (List.mem_append_left _ (List.mem_of_getElem? (i := 52) rfl))) rfl
set_option maxRecDepth 10000 in
theorem w_53 : Jvm.Cond.lays "LearnedRanker$Judgements" "LearnedRanker$Judgements" "number" "I" ∈ lwg := gm (List.mem_append_right _ (List.mem_append_left _ (List.mem_of_getElem? (i := 53) rfl))) rfl
set_option maxRecDepth 10000 in
theorem w_54 : Jvm.Cond.soleField "LearnedRanker$Judgements" "number" ∈ lwg := gm (List.mem_append_right _ (List.mem_append_left _ (List.mem_of_getElem? (i := 54) rfl))) rfl
set_option maxRecDepth 10000 in
theorem w_55 : Jvm.Cond.superclass "LearnedRanker$Judgements" "java/lang/Object" ∈ lwg := gm (List.mem_append_right _ (List.mem_append_left _ (List.mem_of_getElem? (i := 55) rfl))) rfl
set_option maxRecDepth 10000 in
theorem w_56 : Jvm.Cond.classLink "LearnedRanker" (27 : Nat) "LearnedRanker$Forest" ∈ lwg := gm (List.mem_append_right _ (List.mem_append_left _ (List.mem_of_getElem? (i := 56) rfl))) rfl
set_option maxRecDepth 10000 in
theorem w_57 : Jvm.Cond.instantiable "LearnedRanker$Forest" (2 : Nat) ∈ lwg := gm (List.mem_append_right _ (List.mem_append_left _ (List.mem_of_getElem? (i := 57) rfl))) rfl
set_option maxRecDepth 10000 in
theorem w_58 : Jvm.Cond.methodLink "LearnedRanker" (29 : Nat) y_Fo_init ∈ lwg := gm (List.mem_append_right _ (List.mem_append_left _ (List.mem_of_getElem? (i := 58) rfl))) rfl
set_option maxRecDepth 10000 in
theorem w_59 : Jvm.Cond.instanceMethod y_Fo_init ∈ lwg := gm (List.mem_append_right _ (List.mem_append_left _ (List.mem_of_getElem? (i := 59) rfl))) rfl
set_option maxRecDepth 10000 in
theorem w_60 : Jvm.Cond.code y_Fo_init prog_2_method_1_code (2 : Nat) (Option.none : Option Jvm.ClassFile.FieldType) ∈ lwg := gm (List.mem_append_right _ (List.mem_append_left _ (List.mem_of_getElem? (i := 60) rfl))) rfl
set_option maxRecDepth 10000 in
theorem w_61 : Jvm.Cond.methodLink "LearnedRanker$Forest" (3 : Nat) y_Object_init ∈ lwg := gm (List.mem_append_right _ (List.mem_append_left _ (List.mem_of_getElem? (i := 61) rfl))) rfl
set_option maxRecDepth 10000 in
theorem w_62 : Jvm.Cond.classLink "LearnedRanker$Forest" (9 : Nat) "LearnedRanker$Tree" ∈ lwg := gm (List.mem_append_right _ (List.mem_append_left _ (List.mem_of_getElem? (i := 62) rfl))) rfl
set_option maxRecDepth 10000 in
theorem w_63 : Jvm.Cond.arrayOver (Jvm.ClassFile.FieldType.object "LearnedRanker$Tree") ∈ lw_tbl := List.mem_append_right _ (List.mem_append_left _ (List.mem_of_getElem? (i := 63) rfl))
set_option maxRecDepth 10000 in
theorem w_64 : Jvm.Cond.instantiable "LearnedRanker$Tree" (3 : Nat) ∈ lwg := gm (List.mem_append_right _ (List.mem_append_left _ (List.mem_of_getElem? (i := 64) rfl))) rfl
set_option maxRecDepth 10000 in
theorem w_65 : Jvm.Cond.methodLinkNest "LearnedRanker$Forest" (21 : Nat) y_Tr_init "LearnedRanker" ∈ lw_tbl := List.mem_append_right _ (List.mem_append_left _ (List.mem_of_getElem? (i := 65) rfl))
set_option maxRecDepth 10000 in
theorem w_66 : Jvm.Cond.instanceMethod y_Tr_init ∈ lwg := gm (List.mem_append_right _ (List.mem_append_left _ (List.mem_of_getElem? (i := 66) rfl))) rfl
set_option maxRecDepth 10000 in
theorem w_67 : Jvm.Cond.code y_Tr_init prog_7_method_1_code (1 : Nat) (Option.none : Option Jvm.ClassFile.FieldType) ∈ lwg := gm (List.mem_append_right _ (List.mem_append_left _ (List.mem_of_getElem? (i := 67) rfl))) rfl
set_option maxRecDepth 10000 in
theorem w_68 : Jvm.Cond.methodLink "LearnedRanker$Tree" (3 : Nat) y_Object_init ∈ lwg := gm (List.mem_append_right _ (List.mem_append_left _ (List.mem_of_getElem? (i := 68) rfl))) rfl
set_option maxRecDepth 10000 in
theorem w_69 : Jvm.Cond.fieldLink "LearnedRanker$Tree" (9 : Nat) "LearnedRanker$Tree" "features" "[I" ∈ lwg := gm (List.mem_append_right _ (List.mem_append_left _ (List.mem_of_getElem? (i := 69) rfl))) rfl
set_option maxRecDepth 10000 in
theorem w_70 : Jvm.Cond.fieldLink "LearnedRanker$Tree" (15 : Nat) "LearnedRanker$Tree" "thresholds" "[I" ∈ lwg := gm (List.mem_append_right _ (List.mem_append_left _ (List.mem_of_getElem? (i := 70) rfl))) rfl
set_option maxRecDepth 10000 in
theorem w_71 : Jvm.Cond.fieldLink "LearnedRanker$Tree" (18 : Nat) "LearnedRanker$Tree" "values" "[J" ∈ lwg := gm (List.mem_append_right _ (List.mem_append_left _ (List.mem_of_getElem? (i := 71) rfl))) rfl
set_option maxRecDepth 10000 in
theorem w_72 : Jvm.Cond.laysFinal "LearnedRanker$Tree" "LearnedRanker$Tree" "features" "[I" ∈ lwg := gm (List.mem_append_right _ (List.mem_append_left _ (List.mem_of_getElem? (i := 72) rfl))) rfl
set_option maxRecDepth 10000 in
theorem w_73 : Jvm.Cond.soleField "LearnedRanker$Tree" "features" ∈ lwg := gm (List.mem_append_right _ (List.mem_append_left _ (List.mem_of_getElem? (i := 73) rfl))) rfl
set_option maxRecDepth 10000 in
theorem w_74 : Jvm.Cond.laysFinal "LearnedRanker$Tree" "LearnedRanker$Tree" "thresholds" "[I" ∈ lwg := gm (List.mem_append_right _ (List.mem_append_left _ (List.mem_of_getElem? (i := 74) rfl))) rfl
set_option maxRecDepth 10000 in
theorem w_75 : Jvm.Cond.soleField "LearnedRanker$Tree" "thresholds" ∈ lwg := gm (List.mem_append_right _ (List.mem_append_left _ (List.mem_of_getElem? (i := 75) rfl))) rfl
set_option maxRecDepth 10000 in
theorem w_76 : Jvm.Cond.laysFinal "LearnedRanker$Tree" "LearnedRanker$Tree" "values" "[J" ∈ lwg := gm (List.mem_append_right _ (List.mem_append_left _ (List.mem_of_getElem? (i := 76) rfl))) rfl
set_option maxRecDepth 10000 in
theorem w_77 : Jvm.Cond.soleField "LearnedRanker$Tree" "values" ∈ lwg := gm (List.mem_append_right _ (List.mem_append_left _ (List.mem_of_getElem? (i := 77) rfl))) rfl
set_option maxRecDepth 10000 in
theorem w_78 : Jvm.Cond.superclass "LearnedRanker$Tree" "java/lang/Object" ∈ lwg := gm (List.mem_append_right _ (List.mem_append_left _ (List.mem_of_getElem? (i := 78) rfl))) rfl
set_option maxRecDepth 10000 in
theorem w_79 : Jvm.Cond.arrayClass Jvm.ClassFile.FieldType.long ∈ lwg := gm (List.mem_append_right _ (List.mem_append_left _ (List.mem_of_getElem? (i := 79) rfl))) rfl
set_option maxRecDepth 10000 in
theorem w_80 : Jvm.Cond.fieldLink "LearnedRanker$Forest" (11 : Nat) "LearnedRanker$Forest" "trees" "[LLearnedRanker$Tree;" ∈ lwg := gm (List.mem_append_right _ (List.mem_append_left _ (List.mem_of_getElem? (i := 80) rfl))) rfl
set_option maxRecDepth 10000 in
theorem w_81 : Jvm.Cond.fieldLink "LearnedRanker$Forest" (17 : Nat) "LearnedRanker$Forest" "size" "I" ∈ lwg := gm (List.mem_append_right _ (List.mem_append_left _ (List.mem_of_getElem? (i := 81) rfl))) rfl
set_option maxRecDepth 10000 in
theorem w_82 : Jvm.Cond.laysFinal "LearnedRanker$Forest" "LearnedRanker$Forest" "trees" "[LLearnedRanker$Tree;" ∈ lwg := gm (List.mem_append_right _ (List.mem_append_left _ (List.mem_of_getElem? (i := 82) rfl))) rfl
set_option maxRecDepth 10000 in
theorem w_83 : Jvm.Cond.soleField "LearnedRanker$Forest" "trees" ∈ lwg := gm (List.mem_append_right _ (List.mem_append_left _ (List.mem_of_getElem? (i := 83) rfl))) rfl
set_option maxRecDepth 10000 in
theorem w_84 : Jvm.Cond.lays "LearnedRanker$Forest" "LearnedRanker$Forest" "size" "I" ∈ lwg := gm (List.mem_append_right _ (List.mem_append_left _ (List.mem_of_getElem? (i := 84) rfl))) rfl
set_option maxRecDepth 10000 in
theorem w_85 : Jvm.Cond.soleField "LearnedRanker$Forest" "size" ∈ lwg := gm (List.mem_append_right _ (List.mem_append_left _ (List.mem_of_getElem? (i := 85) rfl))) rfl
set_option maxRecDepth 10000 in
theorem w_86 : Jvm.Cond.superclass "LearnedRanker$Forest" "java/lang/Object" ∈ lwg := gm (List.mem_append_right _ (List.mem_append_left _ (List.mem_of_getElem? (i := 86) rfl))) rfl
set_option maxRecDepth 10000 in
theorem w_87 : Jvm.Cond.classLink "LearnedRanker" (34 : Nat) "LearnedRanker$Grower" ∈ lwg := gm (List.mem_append_right _ (List.mem_append_left _ (List.mem_of_getElem? (i := 87) rfl))) rfl
set_option maxRecDepth 10000 in
theorem w_88 : Jvm.Cond.instantiable "LearnedRanker$Grower" (11 : Nat) ∈ lwg := gm (List.mem_append_right _ (List.mem_append_left _ (List.mem_of_getElem? (i := 88) rfl))) rfl
set_option maxRecDepth 10000 in
theorem w_89 : Jvm.Cond.methodLinkNest "LearnedRanker" (36 : Nat) y_Gr_init "LearnedRanker" ∈ lw_tbl := List.mem_append_right _ (List.mem_append_left _ (List.mem_of_getElem? (i := 89) rfl))
set_option maxRecDepth 10000 in
theorem w_90 : Jvm.Cond.instanceMethod y_Gr_init ∈ lwg := gm (List.mem_append_right _ (List.mem_append_left _ (List.mem_of_getElem? (i := 90) rfl))) rfl
set_option maxRecDepth 10000 in
theorem w_91 : Jvm.Cond.code y_Gr_init prog_3_method_1_code (1 : Nat) (Option.none : Option Jvm.ClassFile.FieldType) ∈ lwg := gm (List.mem_append_right _ (List.mem_append_left _ (List.mem_of_getElem? (i := 91) rfl))) rfl
set_option maxRecDepth 10000 in
theorem w_92 : Jvm.Cond.methodLink "LearnedRanker$Grower" (3 : Nat) y_Object_init ∈ lwg := gm (List.mem_append_right _ (List.mem_append_left _ (List.mem_of_getElem? (i := 92) rfl))) rfl
set_option maxRecDepth 10000 in
theorem w_93 : Jvm.Cond.classLink "LearnedRanker$Grower" (9 : Nat) "[[I" ∈ lwg := gm (List.mem_append_right _ (List.mem_append_left _ (List.mem_of_getElem? (i := 93) rfl))) rfl
set_option maxRecDepth 10000 in
theorem w_94 : Jvm.Cond.fieldLink "LearnedRanker$Grower" (11 : Nat) "LearnedRanker$Grower" "features" "[[I" ∈ lwg := gm (List.mem_append_right _ (List.mem_append_left _ (List.mem_of_getElem? (i := 94) rfl))) rfl
set_option maxRecDepth 10000 in
theorem w_95 : Jvm.Cond.fieldLink "LearnedRanker$Grower" (16 : Nat) "LearnedRanker$Grower" "rests" "[J" ∈ lwg := gm (List.mem_append_right _ (List.mem_append_left _ (List.mem_of_getElem? (i := 95) rfl))) rfl
set_option maxRecDepth 10000 in
theorem w_96 : Jvm.Cond.fieldLink "LearnedRanker$Grower" (20 : Nat) "LearnedRanker$Grower" "orders" "[[I" ∈ lwg := gm (List.mem_append_right _ (List.mem_append_left _ (List.mem_of_getElem? (i := 96) rfl))) rfl
set_option maxRecDepth 10000 in
theorem w_97 : Jvm.Cond.fieldLink "LearnedRanker$Grower" (23 : Nat) "LearnedRanker$Grower" "samples" "I" ∈ lwg := gm (List.mem_append_right _ (List.mem_append_left _ (List.mem_of_getElem? (i := 97) rfl))) rfl
set_option maxRecDepth 10000 in
theorem w_98 : Jvm.Cond.fieldLink "LearnedRanker$Grower" (27 : Nat) "LearnedRanker$Grower" "nodes" "[I" ∈ lwg := gm (List.mem_append_right _ (List.mem_append_left _ (List.mem_of_getElem? (i := 98) rfl))) rfl
set_option maxRecDepth 10000 in
theorem w_99 : Jvm.Cond.fieldLink "LearnedRanker$Grower" (31 : Nat) "LearnedRanker$Grower" "leastPart" "I" ∈ lwg := gm (List.mem_append_right _ (List.mem_append_left _ (List.mem_of_getElem? (i := 99) rfl))) rfl
set_option maxRecDepth 10000 in
theorem w_100 : Jvm.Cond.fieldLink "LearnedRanker$Grower" (34 : Nat) "LearnedRanker$Grower" "nodeSum" "J" ∈ lwg := gm (List.mem_append_right _ (List.mem_append_left _ (List.mem_of_getElem? (i := 100) rfl))) rfl
set_option maxRecDepth 10000 in
theorem w_101 : Jvm.Cond.fieldLink "LearnedRanker$Grower" (38 : Nat) "LearnedRanker$Grower" "nodeNumber" "I" ∈ lwg := gm (List.mem_append_right _ (List.mem_append_left _ (List.mem_of_getElem? (i := 101) rfl))) rfl
set_option maxRecDepth 10000 in
theorem w_102 : Jvm.Cond.fieldLink "LearnedRanker$Grower" (41 : Nat) "LearnedRanker$Grower" "bestGain" "J" ∈ lwg := gm (List.mem_append_right _ (List.mem_append_left _ (List.mem_of_getElem? (i := 102) rfl))) rfl
set_option maxRecDepth 10000 in
theorem w_103 : Jvm.Cond.fieldLink "LearnedRanker$Grower" (44 : Nat) "LearnedRanker$Grower" "bestFeature" "I" ∈ lwg := gm (List.mem_append_right _ (List.mem_append_left _ (List.mem_of_getElem? (i := 103) rfl))) rfl
set_option maxRecDepth 10000 in
theorem w_104 : Jvm.Cond.fieldLink "LearnedRanker$Grower" (47 : Nat) "LearnedRanker$Grower" "bestThreshold" "I" ∈ lwg := gm (List.mem_append_right _ (List.mem_append_left _ (List.mem_of_getElem? (i := 104) rfl))) rfl
set_option maxRecDepth 10000 in
theorem w_105 : Jvm.Cond.laysFinal "LearnedRanker$Grower" "LearnedRanker$Grower" "features" "[[I" ∈ lwg := gm (List.mem_append_right _ (List.mem_append_left _ (List.mem_of_getElem? (i := 105) rfl))) rfl
set_option maxRecDepth 10000 in
theorem w_106 : Jvm.Cond.soleField "LearnedRanker$Grower" "features" ∈ lwg := gm (List.mem_append_right _ (List.mem_append_left _ (List.mem_of_getElem? (i := 106) rfl))) rfl
set_option maxRecDepth 10000 in
theorem w_107 : Jvm.Cond.laysFinal "LearnedRanker$Grower" "LearnedRanker$Grower" "rests" "[J" ∈ lwg := gm (List.mem_append_right _ (List.mem_append_left _ (List.mem_of_getElem? (i := 107) rfl))) rfl
set_option maxRecDepth 10000 in
theorem w_108 : Jvm.Cond.soleField "LearnedRanker$Grower" "rests" ∈ lwg := gm (List.mem_append_right _ (List.mem_append_left _ (List.mem_of_getElem? (i := 108) rfl))) rfl
set_option maxRecDepth 10000 in
theorem w_109 : Jvm.Cond.laysFinal "LearnedRanker$Grower" "LearnedRanker$Grower" "orders" "[[I" ∈ lwg := gm (List.mem_append_right _ (List.mem_append_left _ (List.mem_of_getElem? (i := 109) rfl))) rfl
set_option maxRecDepth 10000 in
theorem w_110 : Jvm.Cond.soleField "LearnedRanker$Grower" "orders" ∈ lwg := gm (List.mem_append_right _ (List.mem_append_left _ (List.mem_of_getElem? (i := 110) rfl))) rfl
set_option maxRecDepth 10000 in
theorem w_111 : Jvm.Cond.lays "LearnedRanker$Grower" "LearnedRanker$Grower" "samples" "I" ∈ lwg := gm (List.mem_append_right _ (List.mem_append_left _ (List.mem_of_getElem? (i := 111) rfl))) rfl
set_option maxRecDepth 10000 in
theorem w_112 : Jvm.Cond.soleField "LearnedRanker$Grower" "samples" ∈ lwg := gm (List.mem_append_right _ (List.mem_append_left _ (List.mem_of_getElem? (i := 112) rfl))) rfl
set_option maxRecDepth 10000 in
theorem w_113 : Jvm.Cond.laysFinal "LearnedRanker$Grower" "LearnedRanker$Grower" "nodes" "[I" ∈ lwg := gm (List.mem_append_right _ (List.mem_append_left _ (List.mem_of_getElem? (i := 113) rfl))) rfl
set_option maxRecDepth 10000 in
theorem w_114 : Jvm.Cond.soleField "LearnedRanker$Grower" "nodes" ∈ lwg := gm (List.mem_append_right _ (List.mem_append_left _ (List.mem_of_getElem? (i := 114) rfl))) rfl
set_option maxRecDepth 10000 in
theorem w_115 : Jvm.Cond.lays "LearnedRanker$Grower" "LearnedRanker$Grower" "leastPart" "I" ∈ lwg := gm (List.mem_append_right _ (List.mem_append_left _ (List.mem_of_getElem? (i := 115) rfl))) rfl
set_option maxRecDepth 10000 in
theorem w_116 : Jvm.Cond.soleField "LearnedRanker$Grower" "leastPart" ∈ lwg := gm (List.mem_append_right _ (List.mem_append_left _ (List.mem_of_getElem? (i := 116) rfl))) rfl
set_option maxRecDepth 10000 in
theorem w_117 : Jvm.Cond.lays "LearnedRanker$Grower" "LearnedRanker$Grower" "nodeSum" "J" ∈ lwg := gm (List.mem_append_right _ (List.mem_append_left _ (List.mem_of_getElem? (i := 117) rfl))) rfl
set_option maxRecDepth 10000 in
theorem w_118 : Jvm.Cond.soleField "LearnedRanker$Grower" "nodeSum" ∈ lwg := gm (List.mem_append_right _ (List.mem_append_left _ (List.mem_of_getElem? (i := 118) rfl))) rfl
set_option maxRecDepth 10000 in
theorem w_119 : Jvm.Cond.lays "LearnedRanker$Grower" "LearnedRanker$Grower" "nodeNumber" "I" ∈ lwg := gm (List.mem_append_right _ (List.mem_append_left _ (List.mem_of_getElem? (i := 119) rfl))) rfl
set_option maxRecDepth 10000 in
theorem w_120 : Jvm.Cond.soleField "LearnedRanker$Grower" "nodeNumber" ∈ lwg := gm (List.mem_append_right _ (List.mem_append_left _ (List.mem_of_getElem? (i := 120) rfl))) rfl
set_option maxRecDepth 10000 in
theorem w_121 : Jvm.Cond.lays "LearnedRanker$Grower" "LearnedRanker$Grower" "bestGain" "J" ∈ lwg := gm (List.mem_append_right _ (List.mem_append_left _ (List.mem_of_getElem? (i := 121) rfl))) rfl
set_option maxRecDepth 10000 in
theorem w_122 : Jvm.Cond.soleField "LearnedRanker$Grower" "bestGain" ∈ lwg := gm (List.mem_append_right _ (List.mem_append_left _ (List.mem_of_getElem? (i := 122) rfl))) rfl
set_option maxRecDepth 10000 in
theorem w_123 : Jvm.Cond.lays "LearnedRanker$Grower" "LearnedRanker$Grower" "bestFeature" "I" ∈ lwg := gm (List.mem_append_right _ (List.mem_append_left _ (List.mem_of_getElem? (i := 123) rfl))) rfl
set_option maxRecDepth 10000 in
theorem w_124 : Jvm.Cond.soleField "LearnedRanker$Grower" "bestFeature" ∈ lwg := gm (List.mem_append_right _ (List.mem_append_left _ (List.mem_of_getElem? (i := 124) rfl))) rfl
set_option maxRecDepth 10000 in
theorem w_125 : Jvm.Cond.lays "LearnedRanker$Grower" "LearnedRanker$Grower" "bestThreshold" "I" ∈ lwg := gm (List.mem_append_right _ (List.mem_append_left _ (List.mem_of_getElem? (i := 125) rfl))) rfl
set_option maxRecDepth 10000 in
theorem w_126 : Jvm.Cond.soleField "LearnedRanker$Grower" "bestThreshold" ∈ lwg := gm (List.mem_append_right _ (List.mem_append_left _ (List.mem_of_getElem? (i := 126) rfl))) rfl
set_option maxRecDepth 10000 in
theorem w_127 : Jvm.Cond.superclass "LearnedRanker$Grower" "java/lang/Object" ∈ lwg := gm (List.mem_append_right _ (List.mem_append_left _ (List.mem_of_getElem? (i := 127) rfl))) rfl
set_option maxRecDepth 10000 in
theorem w_128 : Jvm.Cond.classLink "LearnedRanker" (41 : Nat) "LearnedRanker$Ranking" ∈ lwg := gm (List.mem_append_right _ (List.mem_append_left _ (List.mem_of_getElem? (i := 128) rfl))) rfl
set_option maxRecDepth 10000 in
theorem w_129 : Jvm.Cond.instantiable "LearnedRanker$Ranking" (3 : Nat) ∈ lwg := gm (List.mem_append_right _ (List.mem_append_left _ (List.mem_of_getElem? (i := 129) rfl))) rfl
set_option maxRecDepth 10000 in
theorem w_130 : Jvm.Cond.methodLinkNest "LearnedRanker" (43 : Nat) y_Ra_init "LearnedRanker" ∈ lw_tbl := List.mem_append_right _ (List.mem_append_left _ (List.mem_of_getElem? (i := 130) rfl))
set_option maxRecDepth 10000 in
theorem w_131 : Jvm.Cond.instanceMethod y_Ra_init ∈ lwg := gm (List.mem_append_right _ (List.mem_append_left _ (List.mem_of_getElem? (i := 131) rfl))) rfl
set_option maxRecDepth 10000 in
theorem w_132 : Jvm.Cond.code y_Ra_init prog_5_method_1_code (1 : Nat) (Option.none : Option Jvm.ClassFile.FieldType) ∈ lwg := gm (List.mem_append_right _ (List.mem_append_left _ (List.mem_of_getElem? (i := 132) rfl))) rfl
set_option maxRecDepth 10000 in
theorem w_133 : Jvm.Cond.methodLink "LearnedRanker$Ranking" (3 : Nat) y_Object_init ∈ lwg := gm (List.mem_append_right _ (List.mem_append_left _ (List.mem_of_getElem? (i := 133) rfl))) rfl
set_option maxRecDepth 10000 in
theorem w_134 : Jvm.Cond.fieldLink "LearnedRanker$Ranking" (9 : Nat) "LearnedRanker$Ranking" "documents" "[I" ∈ lwg := gm (List.mem_append_right _ (List.mem_append_left _ (List.mem_of_getElem? (i := 134) rfl))) rfl
set_option maxRecDepth 10000 in
theorem w_135 : Jvm.Cond.fieldLink "LearnedRanker$Ranking" (15 : Nat) "LearnedRanker$Ranking" "keys" "[J" ∈ lwg := gm (List.mem_append_right _ (List.mem_append_left _ (List.mem_of_getElem? (i := 135) rfl))) rfl
set_option maxRecDepth 10000 in
theorem w_136 : Jvm.Cond.fieldLink "LearnedRanker$Ranking" (19 : Nat) "LearnedRanker$Ranking" "length" "I" ∈ lwg := gm (List.mem_append_right _ (List.mem_append_left _ (List.mem_of_getElem? (i := 136) rfl))) rfl
set_option maxRecDepth 10000 in
theorem w_137 : Jvm.Cond.laysFinal "LearnedRanker$Ranking" "LearnedRanker$Ranking" "documents" "[I" ∈ lwg := gm (List.mem_append_right _ (List.mem_append_left _ (List.mem_of_getElem? (i := 137) rfl))) rfl
set_option maxRecDepth 10000 in
theorem w_138 : Jvm.Cond.soleField "LearnedRanker$Ranking" "documents" ∈ lwg := gm (List.mem_append_right _ (List.mem_append_left _ (List.mem_of_getElem? (i := 138) rfl))) rfl
set_option maxRecDepth 10000 in
theorem w_139 : Jvm.Cond.laysFinal "LearnedRanker$Ranking" "LearnedRanker$Ranking" "keys" "[J" ∈ lwg := gm (List.mem_append_right _ (List.mem_append_left _ (List.mem_of_getElem? (i := 139) rfl))) rfl
set_option maxRecDepth 10000 in
theorem w_140 : Jvm.Cond.soleField "LearnedRanker$Ranking" "keys" ∈ lwg := gm (List.mem_append_right _ (List.mem_append_left _ (List.mem_of_getElem? (i := 140) rfl))) rfl
set_option maxRecDepth 10000 in
theorem w_141 : Jvm.Cond.lays "LearnedRanker$Ranking" "LearnedRanker$Ranking" "length" "I" ∈ lwg := gm (List.mem_append_right _ (List.mem_append_left _ (List.mem_of_getElem? (i := 141) rfl))) rfl
set_option maxRecDepth 10000 in
theorem w_142 : Jvm.Cond.soleField "LearnedRanker$Ranking" "length" ∈ lwg := gm (List.mem_append_right _ (List.mem_append_left _ (List.mem_of_getElem? (i := 142) rfl))) rfl
set_option maxRecDepth 10000 in
theorem w_143 : Jvm.Cond.superclass "LearnedRanker$Ranking" "java/lang/Object" ∈ lwg := gm (List.mem_append_right _ (List.mem_append_left _ (List.mem_of_getElem? (i := 143) rfl))) rfl
set_option maxRecDepth 10000 in
theorem w_144 : Jvm.Cond.fieldLink "LearnedRanker" (10 : Nat) "LearnedRanker" "shelf" "LLearnedRanker$Shelf;" ∈ lwg := gm (List.mem_append_right _ (List.mem_append_left _ (List.mem_of_getElem? (i := 144) rfl))) rfl
set_option maxRecDepth 10000 in
theorem w_145 : Jvm.Cond.fieldLink "LearnedRanker" (16 : Nat) "LearnedRanker" "masks" "[I" ∈ lwg := gm (List.mem_append_right _ (List.mem_append_left _ (List.mem_of_getElem? (i := 145) rfl))) rfl
set_option maxRecDepth 10000 in
theorem w_146 : Jvm.Cond.fieldLink "LearnedRanker" (23 : Nat) "LearnedRanker" "judgements" "LLearnedRanker$Judgements;" ∈ lwg := gm (List.mem_append_right _ (List.mem_append_left _ (List.mem_of_getElem? (i := 146) rfl))) rfl
set_option maxRecDepth 10000 in
theorem w_147 : Jvm.Cond.fieldLink "LearnedRanker" (30 : Nat) "LearnedRanker" "forest" "LLearnedRanker$Forest;" ∈ lwg := gm (List.mem_append_right _ (List.mem_append_left _ (List.mem_of_getElem? (i := 147) rfl))) rfl
set_option maxRecDepth 10000 in
theorem w_148 : Jvm.Cond.fieldLink "LearnedRanker" (37 : Nat) "LearnedRanker" "grower" "LLearnedRanker$Grower;" ∈ lwg := gm (List.mem_append_right _ (List.mem_append_left _ (List.mem_of_getElem? (i := 148) rfl))) rfl
set_option maxRecDepth 10000 in
theorem w_149 : Jvm.Cond.fieldLink "LearnedRanker" (44 : Nat) "LearnedRanker" "candidates" "LLearnedRanker$Ranking;" ∈ lwg := gm (List.mem_append_right _ (List.mem_append_left _ (List.mem_of_getElem? (i := 149) rfl))) rfl
set_option maxRecDepth 10000 in
theorem w_150 : Jvm.Cond.fieldLink "LearnedRanker" (48 : Nat) "LearnedRanker" "reranked" "LLearnedRanker$Ranking;" ∈ lwg := gm (List.mem_append_right _ (List.mem_append_left _ (List.mem_of_getElem? (i := 150) rfl))) rfl
set_option maxRecDepth 10000 in
theorem w_151 : Jvm.Cond.fieldLink "LearnedRanker" (51 : Nat) "LearnedRanker" "measured" "[I" ∈ lwg := gm (List.mem_append_right _ (List.mem_append_left _ (List.mem_of_getElem? (i := 151) rfl))) rfl
set_option maxRecDepth 10000 in
theorem w_152 : Jvm.Cond.fieldLink "LearnedRanker" (54 : Nat) "LearnedRanker" "cutOff" "I" ∈ lwg := gm (List.mem_append_right _ (List.mem_append_left _ (List.mem_of_getElem? (i := 152) rfl))) rfl
set_option maxRecDepth 10000 in
theorem w_153 : Jvm.Cond.laysFinal "LearnedRanker" "LearnedRanker" "shelf" "LLearnedRanker$Shelf;" ∈ lwg := gm (List.mem_append_right _ (List.mem_append_left _ (List.mem_of_getElem? (i := 153) rfl))) rfl
set_option maxRecDepth 10000 in
theorem w_154 : Jvm.Cond.soleField "LearnedRanker" "shelf" ∈ lwg := gm (List.mem_append_right _ (List.mem_append_left _ (List.mem_of_getElem? (i := 154) rfl))) rfl
set_option maxRecDepth 10000 in
theorem w_155 : Jvm.Cond.laysFinal "LearnedRanker" "LearnedRanker" "masks" "[I" ∈ lwg := gm (List.mem_append_right _ (List.mem_append_left _ (List.mem_of_getElem? (i := 155) rfl))) rfl
set_option maxRecDepth 10000 in
theorem w_156 : Jvm.Cond.soleField "LearnedRanker" "masks" ∈ lwg := gm (List.mem_append_right _ (List.mem_append_left _ (List.mem_of_getElem? (i := 156) rfl))) rfl
set_option maxRecDepth 10000 in
theorem w_157 : Jvm.Cond.laysFinal "LearnedRanker" "LearnedRanker" "judgements" "LLearnedRanker$Judgements;" ∈ lwg := gm (List.mem_append_right _ (List.mem_append_left _ (List.mem_of_getElem? (i := 157) rfl))) rfl
set_option maxRecDepth 10000 in
theorem w_158 : Jvm.Cond.soleField "LearnedRanker" "judgements" ∈ lwg := gm (List.mem_append_right _ (List.mem_append_left _ (List.mem_of_getElem? (i := 158) rfl))) rfl
set_option maxRecDepth 10000 in
theorem w_159 : Jvm.Cond.laysFinal "LearnedRanker" "LearnedRanker" "forest" "LLearnedRanker$Forest;" ∈ lwg := gm (List.mem_append_right _ (List.mem_append_left _ (List.mem_of_getElem? (i := 159) rfl))) rfl
set_option maxRecDepth 10000 in
theorem w_160 : Jvm.Cond.soleField "LearnedRanker" "forest" ∈ lwg := gm (List.mem_append_right _ (List.mem_append_left _ (List.mem_of_getElem? (i := 160) rfl))) rfl
set_option maxRecDepth 10000 in
theorem w_161 : Jvm.Cond.laysFinal "LearnedRanker" "LearnedRanker" "grower" "LLearnedRanker$Grower;" ∈ lwg := gm (List.mem_append_right _ (List.mem_append_left _ (List.mem_of_getElem? (i := 161) rfl))) rfl
set_option maxRecDepth 10000 in
theorem w_162 : Jvm.Cond.soleField "LearnedRanker" "grower" ∈ lwg := gm (List.mem_append_right _ (List.mem_append_left _ (List.mem_of_getElem? (i := 162) rfl))) rfl
set_option maxRecDepth 10000 in
theorem w_163 : Jvm.Cond.laysFinal "LearnedRanker" "LearnedRanker" "candidates" "LLearnedRanker$Ranking;" ∈ lwg := gm (List.mem_append_right _ (List.mem_append_left _ (List.mem_of_getElem? (i := 163) rfl))) rfl
set_option maxRecDepth 10000 in
theorem w_164 : Jvm.Cond.soleField "LearnedRanker" "candidates" ∈ lwg := gm (List.mem_append_right _ (List.mem_append_left _ (List.mem_of_getElem? (i := 164) rfl))) rfl
set_option maxRecDepth 10000 in
theorem w_165 : Jvm.Cond.laysFinal "LearnedRanker" "LearnedRanker" "reranked" "LLearnedRanker$Ranking;" ∈ lwg := gm (List.mem_append_right _ (List.mem_append_left _ (List.mem_of_getElem? (i := 165) rfl))) rfl
set_option maxRecDepth 10000 in
theorem w_166 : Jvm.Cond.soleField "LearnedRanker" "reranked" ∈ lwg := gm (List.mem_append_right _ (List.mem_append_left _ (List.mem_of_getElem? (i := 166) rfl))) rfl
set_option maxRecDepth 10000 in
theorem w_167 : Jvm.Cond.laysFinal "LearnedRanker" "LearnedRanker" "measured" "[I" ∈ lwg := gm (List.mem_append_right _ (List.mem_append_left _ (List.mem_of_getElem? (i := 167) rfl))) rfl
set_option maxRecDepth 10000 in
theorem w_168 : Jvm.Cond.soleField "LearnedRanker" "measured" ∈ lwg := gm (List.mem_append_right _ (List.mem_append_left _ (List.mem_of_getElem? (i := 168) rfl))) rfl
set_option maxRecDepth 10000 in
theorem w_169 : Jvm.Cond.lays "LearnedRanker" "LearnedRanker" "cutOff" "I" ∈ lwg := gm (List.mem_append_right _ (List.mem_append_left _ (List.mem_of_getElem? (i := 169) rfl))) rfl
set_option maxRecDepth 10000 in
theorem w_170 : Jvm.Cond.soleField "LearnedRanker" "cutOff" ∈ lwg := gm (List.mem_append_right _ (List.mem_append_left _ (List.mem_of_getElem? (i := 170) rfl))) rfl
set_option maxRecDepth 10000 in
theorem w_171 : Jvm.Cond.superclass "LearnedRanker" "java/lang/Object" ∈ lwg := gm (List.mem_append_right _ (List.mem_append_left _ (List.mem_of_getElem? (i := 171) rfl))) rfl
set_option maxRecDepth 10000 in
theorem w_172 : Jvm.Cond.methodLink "LearnedRankerLaw" (13 : Nat) y_X_document ∈ lwg := gm (List.mem_append_right _ (List.mem_append_left _ (List.mem_of_getElem? (i := 172) rfl))) rfl
set_option maxRecDepth 10000 in
theorem w_173 : Jvm.Cond.instanceMethod y_X_document ∈ lwg := gm (List.mem_append_right _ (List.mem_append_left _ (List.mem_of_getElem? (i := 173) rfl))) rfl
set_option maxRecDepth 10000 in
theorem w_174 : Jvm.Cond.selects "LearnedRanker" y_X_document y_X_document ∈ lwg := gm (List.mem_append_right _ (List.mem_append_left _ (List.mem_of_getElem? (i := 174) rfl))) rfl
set_option maxRecDepth 10000 in
theorem w_175 : Jvm.Cond.code y_X_document prog_1_method_2_code (3 : Nat) (Option.some Jvm.ClassFile.FieldType.int) ∈ lwg := gm (List.mem_append_right _ (List.mem_append_left _ (List.mem_of_getElem? (i := 175) rfl))) rfl
set_option maxRecDepth 10000 in
theorem w_176 : Jvm.Cond.methodLink "LearnedRanker" (58 : Nat) y_X_within ∈ lwg := gm (List.mem_append_right _ (List.mem_append_left _ (List.mem_of_getElem? (i := 176) rfl))) rfl
set_option maxRecDepth 10000 in
theorem w_177 : Jvm.Cond.static y_X_within ∈ lwg := gm (List.mem_append_right _ (List.mem_append_left _ (List.mem_of_getElem? (i := 177) rfl))) rfl
set_option maxRecDepth 10000 in
theorem w_178 : Jvm.Cond.code y_X_within prog_1_method_16_code (2 : Nat) (Option.some Jvm.ClassFile.FieldType.boolean) ∈ lwg := gm (List.mem_append_right _ (List.mem_append_left _ (List.mem_of_getElem? (i := 178) rfl))) rfl
set_option maxRecDepth 10000 in
theorem w_179 : Jvm.Cond.methodLink "LearnedRanker" (62 : Nat) y_Sh_put ∈ lwg := gm (List.mem_append_right _ (List.mem_append_left _ (List.mem_of_getElem? (i := 179) rfl))) rfl
set_option maxRecDepth 10000 in
theorem w_180 : Jvm.Cond.instanceMethod y_Sh_put ∈ lwg := gm (List.mem_append_right _ (List.mem_append_left _ (List.mem_of_getElem? (i := 180) rfl))) rfl
set_option maxRecDepth 10000 in
theorem w_181 : Jvm.Cond.selects "LearnedRanker$Shelf" y_Sh_put y_Sh_put ∈ lwg := gm (List.mem_append_right _ (List.mem_append_left _ (List.mem_of_getElem? (i := 181) rfl))) rfl
set_option maxRecDepth 10000 in
theorem w_182 : Jvm.Cond.code y_Sh_put prog_6_method_3_code (3 : Nat) (Option.none : Option Jvm.ClassFile.FieldType) ∈ lwg := gm (List.mem_append_right _ (List.mem_append_left _ (List.mem_of_getElem? (i := 182) rfl))) rfl
set_option maxRecDepth 10000 in
theorem w_183 : Jvm.Cond.methodLink "LearnedRanker$Shelf" (28 : Nat) y_Arrays_fill ∈ lwg := gm (List.mem_append_right _ (List.mem_append_left _ (List.mem_of_getElem? (i := 183) rfl))) rfl
set_option maxRecDepth 10000 in
theorem w_184 : Jvm.Cond.methodLink "LearnedRankerLaw" (18 : Nat) y_X_remove ∈ lwg := gm (List.mem_append_right _ (List.mem_append_left _ (List.mem_of_getElem? (i := 184) rfl))) rfl
set_option maxRecDepth 10000 in
theorem w_185 : Jvm.Cond.instanceMethod y_X_remove ∈ lwg := gm (List.mem_append_right _ (List.mem_append_left _ (List.mem_of_getElem? (i := 185) rfl))) rfl
set_option maxRecDepth 10000 in
theorem w_186 : Jvm.Cond.selects "LearnedRanker" y_X_remove y_X_remove ∈ lwg := gm (List.mem_append_right _ (List.mem_append_left _ (List.mem_of_getElem? (i := 186) rfl))) rfl
set_option maxRecDepth 10000 in
theorem w_187 : Jvm.Cond.code y_X_remove prog_1_method_3_code (2 : Nat) (Option.some Jvm.ClassFile.FieldType.int) ∈ lwg := gm (List.mem_append_right _ (List.mem_append_left _ (List.mem_of_getElem? (i := 187) rfl))) rfl
set_option maxRecDepth 10000 in
theorem w_188 : Jvm.Cond.methodLink "LearnedRanker" (66 : Nat) y_Sh_holds ∈ lwg := gm (List.mem_append_right _ (List.mem_append_left _ (List.mem_of_getElem? (i := 188) rfl))) rfl
set_option maxRecDepth 10000 in
theorem w_189 : Jvm.Cond.instanceMethod y_Sh_holds ∈ lwg := gm (List.mem_append_right _ (List.mem_append_left _ (List.mem_of_getElem? (i := 189) rfl))) rfl
set_option maxRecDepth 10000 in
theorem w_190 : Jvm.Cond.selects "LearnedRanker$Shelf" y_Sh_holds y_Sh_holds ∈ lwg := gm (List.mem_append_right _ (List.mem_append_left _ (List.mem_of_getElem? (i := 190) rfl))) rfl
set_option maxRecDepth 10000 in
theorem w_191 : Jvm.Cond.code y_Sh_holds prog_6_method_2_code (2 : Nat) (Option.some Jvm.ClassFile.FieldType.boolean) ∈ lwg := gm (List.mem_append_right _ (List.mem_append_left _ (List.mem_of_getElem? (i := 191) rfl))) rfl
set_option maxRecDepth 10000 in
theorem w_192 : Jvm.Cond.methodLinkNest "LearnedRanker$Shelf" (24 : Nat) y_X_within "LearnedRanker" ∈ lw_tbl := List.mem_append_right _ (List.mem_append_left _ (List.mem_of_getElem? (i := 192) rfl))
set_option maxRecDepth 10000 in
theorem w_193 : Jvm.Cond.methodLink "LearnedRanker" (70 : Nat) y_Sh_drop ∈ lwg := gm (List.mem_append_right _ (List.mem_append_left _ (List.mem_of_getElem? (i := 193) rfl))) rfl
set_option maxRecDepth 10000 in
theorem w_194 : Jvm.Cond.instanceMethod y_Sh_drop ∈ lwg := gm (List.mem_append_right _ (List.mem_append_left _ (List.mem_of_getElem? (i := 194) rfl))) rfl
set_option maxRecDepth 10000 in
theorem w_195 : Jvm.Cond.selects "LearnedRanker$Shelf" y_Sh_drop y_Sh_drop ∈ lwg := gm (List.mem_append_right _ (List.mem_append_left _ (List.mem_of_getElem? (i := 195) rfl))) rfl
set_option maxRecDepth 10000 in
theorem w_196 : Jvm.Cond.code y_Sh_drop prog_6_method_4_code (2 : Nat) (Option.none : Option Jvm.ClassFile.FieldType) ∈ lwg := gm (List.mem_append_right _ (List.mem_append_left _ (List.mem_of_getElem? (i := 196) rfl))) rfl
set_option maxRecDepth 10000 in
theorem w_197 : Jvm.Cond.methodLink "LearnedRankerLaw" (23 : Nat) y_X_term ∈ lwg := gm (List.mem_append_right _ (List.mem_append_left _ (List.mem_of_getElem? (i := 197) rfl))) rfl
set_option maxRecDepth 10000 in
theorem w_198 : Jvm.Cond.instanceMethod y_X_term ∈ lwg := gm (List.mem_append_right _ (List.mem_append_left _ (List.mem_of_getElem? (i := 198) rfl))) rfl
set_option maxRecDepth 10000 in
theorem w_199 : Jvm.Cond.selects "LearnedRanker" y_X_term y_X_term ∈ lwg := gm (List.mem_append_right _ (List.mem_append_left _ (List.mem_of_getElem? (i := 199) rfl))) rfl
set_option maxRecDepth 10000 in
theorem w_200 : Jvm.Cond.code y_X_term prog_1_method_4_code (4 : Nat) (Option.some Jvm.ClassFile.FieldType.int) ∈ lwg := gm (List.mem_append_right _ (List.mem_append_left _ (List.mem_of_getElem? (i := 200) rfl))) rfl
set_option maxRecDepth 10000 in
theorem w_201 : Jvm.Cond.methodLink "LearnedRanker" (74 : Nat) y_Sh_setCount ∈ lwg := gm (List.mem_append_right _ (List.mem_append_left _ (List.mem_of_getElem? (i := 201) rfl))) rfl
set_option maxRecDepth 10000 in
theorem w_202 : Jvm.Cond.instanceMethod y_Sh_setCount ∈ lwg := gm (List.mem_append_right _ (List.mem_append_left _ (List.mem_of_getElem? (i := 202) rfl))) rfl
set_option maxRecDepth 10000 in
theorem w_203 : Jvm.Cond.selects "LearnedRanker$Shelf" y_Sh_setCount y_Sh_setCount ∈ lwg := gm (List.mem_append_right _ (List.mem_append_left _ (List.mem_of_getElem? (i := 203) rfl))) rfl
set_option maxRecDepth 10000 in
theorem w_204 : Jvm.Cond.code y_Sh_setCount prog_6_method_5_code (4 : Nat) (Option.none : Option Jvm.ClassFile.FieldType) ∈ lwg := gm (List.mem_append_right _ (List.mem_append_left _ (List.mem_of_getElem? (i := 204) rfl))) rfl
set_option maxRecDepth 10000 in
theorem w_205 : Jvm.Cond.methodLink "LearnedRankerLaw" (28 : Nat) y_X_query ∈ lwg := gm (List.mem_append_right _ (List.mem_append_left _ (List.mem_of_getElem? (i := 205) rfl))) rfl
set_option maxRecDepth 10000 in
theorem w_206 : Jvm.Cond.instanceMethod y_X_query ∈ lwg := gm (List.mem_append_right _ (List.mem_append_left _ (List.mem_of_getElem? (i := 206) rfl))) rfl
set_option maxRecDepth 10000 in
theorem w_207 : Jvm.Cond.selects "LearnedRanker" y_X_query y_X_query ∈ lwg := gm (List.mem_append_right _ (List.mem_append_left _ (List.mem_of_getElem? (i := 207) rfl))) rfl
set_option maxRecDepth 10000 in
theorem w_208 : Jvm.Cond.code y_X_query prog_1_method_5_code (3 : Nat) (Option.some Jvm.ClassFile.FieldType.int) ∈ lwg := gm (List.mem_append_right _ (List.mem_append_left _ (List.mem_of_getElem? (i := 208) rfl))) rfl
set_option maxRecDepth 10000 in
theorem w_209 : Jvm.Cond.methodLink "LearnedRanker" (78 : Nat) y_X_isQuery ∈ lwg := gm (List.mem_append_right _ (List.mem_append_left _ (List.mem_of_getElem? (i := 209) rfl))) rfl
set_option maxRecDepth 10000 in
theorem w_210 : Jvm.Cond.static y_X_isQuery ∈ lwg := gm (List.mem_append_right _ (List.mem_append_left _ (List.mem_of_getElem? (i := 210) rfl))) rfl
set_option maxRecDepth 10000 in
theorem w_211 : Jvm.Cond.code y_X_isQuery prog_1_method_17_code (1 : Nat) (Option.some Jvm.ClassFile.FieldType.boolean) ∈ lwg := gm (List.mem_append_right _ (List.mem_append_left _ (List.mem_of_getElem? (i := 211) rfl))) rfl
set_option maxRecDepth 10000 in
theorem w_212 : Jvm.Cond.methodLink "LearnedRankerLaw" (32 : Nat) y_X_judge ∈ lwg := gm (List.mem_append_right _ (List.mem_append_left _ (List.mem_of_getElem? (i := 212) rfl))) rfl
set_option maxRecDepth 10000 in
theorem w_213 : Jvm.Cond.instanceMethod y_X_judge ∈ lwg := gm (List.mem_append_right _ (List.mem_append_left _ (List.mem_of_getElem? (i := 213) rfl))) rfl
set_option maxRecDepth 10000 in
theorem w_214 : Jvm.Cond.selects "LearnedRanker" y_X_judge y_X_judge ∈ lwg := gm (List.mem_append_right _ (List.mem_append_left _ (List.mem_of_getElem? (i := 214) rfl))) rfl
set_option maxRecDepth 10000 in
theorem w_215 : Jvm.Cond.code y_X_judge prog_1_method_6_code (6 : Nat) (Option.some Jvm.ClassFile.FieldType.int) ∈ lwg := gm (List.mem_append_right _ (List.mem_append_left _ (List.mem_of_getElem? (i := 215) rfl))) rfl
set_option maxRecDepth 10000 in
theorem w_216 : Jvm.Cond.methodLink "LearnedRanker" (81 : Nat) y_Ju_gradeOf ∈ lwg := gm (List.mem_append_right _ (List.mem_append_left _ (List.mem_of_getElem? (i := 216) rfl))) rfl
set_option maxRecDepth 10000 in
theorem w_217 : Jvm.Cond.instanceMethod y_Ju_gradeOf ∈ lwg := gm (List.mem_append_right _ (List.mem_append_left _ (List.mem_of_getElem? (i := 217) rfl))) rfl
set_option maxRecDepth 10000 in
theorem w_218 : Jvm.Cond.selects "LearnedRanker$Judgements" y_Ju_gradeOf y_Ju_gradeOf ∈ lwg := gm (List.mem_append_right _ (List.mem_append_left _ (List.mem_of_getElem? (i := 218) rfl))) rfl
set_option maxRecDepth 10000 in
theorem w_219 : Jvm.Cond.code y_Ju_gradeOf prog_4_method_3_code (3 : Nat) (Option.some Jvm.ClassFile.FieldType.int) ∈ lwg := gm (List.mem_append_right _ (List.mem_append_left _ (List.mem_of_getElem? (i := 219) rfl))) rfl
set_option maxRecDepth 10000 in
theorem w_220 : Jvm.Cond.methodLink "LearnedRanker" (85 : Nat) y_Ju_number ∈ lwg := gm (List.mem_append_right _ (List.mem_append_left _ (List.mem_of_getElem? (i := 220) rfl))) rfl
set_option maxRecDepth 10000 in
theorem w_221 : Jvm.Cond.instanceMethod y_Ju_number ∈ lwg := gm (List.mem_append_right _ (List.mem_append_left _ (List.mem_of_getElem? (i := 221) rfl))) rfl
set_option maxRecDepth 10000 in
theorem w_222 : Jvm.Cond.selects "LearnedRanker$Judgements" y_Ju_number y_Ju_number ∈ lwg := gm (List.mem_append_right _ (List.mem_append_left _ (List.mem_of_getElem? (i := 222) rfl))) rfl
set_option maxRecDepth 10000 in
theorem w_223 : Jvm.Cond.code y_Ju_number prog_4_method_2_code (1 : Nat) (Option.some Jvm.ClassFile.FieldType.int) ∈ lwg := gm (List.mem_append_right _ (List.mem_append_left _ (List.mem_of_getElem? (i := 223) rfl))) rfl
set_option maxRecDepth 10000 in
theorem w_224 : Jvm.Cond.methodLink "LearnedRanker" (89 : Nat) y_Ju_set ∈ lwg := gm (List.mem_append_right _ (List.mem_append_left _ (List.mem_of_getElem? (i := 224) rfl))) rfl
set_option maxRecDepth 10000 in
theorem w_225 : Jvm.Cond.instanceMethod y_Ju_set ∈ lwg := gm (List.mem_append_right _ (List.mem_append_left _ (List.mem_of_getElem? (i := 225) rfl))) rfl
set_option maxRecDepth 10000 in
theorem w_226 : Jvm.Cond.selects "LearnedRanker$Judgements" y_Ju_set y_Ju_set ∈ lwg := gm (List.mem_append_right _ (List.mem_append_left _ (List.mem_of_getElem? (i := 226) rfl))) rfl
set_option maxRecDepth 10000 in
theorem w_227 : Jvm.Cond.code y_Ju_set prog_4_method_4_code (5 : Nat) (Option.none : Option Jvm.ClassFile.FieldType) ∈ lwg := gm (List.mem_append_right _ (List.mem_append_left _ (List.mem_of_getElem? (i := 227) rfl))) rfl
set_option maxRecDepth 10000 in
theorem w_228 : Jvm.Cond.methodLink "LearnedRankerLaw" (36 : Nat) y_X_depth ∈ lwg := gm (List.mem_append_right _ (List.mem_append_left _ (List.mem_of_getElem? (i := 228) rfl))) rfl
set_option maxRecDepth 10000 in
theorem w_229 : Jvm.Cond.instanceMethod y_X_depth ∈ lwg := gm (List.mem_append_right _ (List.mem_append_left _ (List.mem_of_getElem? (i := 229) rfl))) rfl
set_option maxRecDepth 10000 in
theorem w_230 : Jvm.Cond.selects "LearnedRanker" y_X_depth y_X_depth ∈ lwg := gm (List.mem_append_right _ (List.mem_append_left _ (List.mem_of_getElem? (i := 230) rfl))) rfl
set_option maxRecDepth 10000 in
theorem w_231 : Jvm.Cond.code y_X_depth prog_1_method_7_code (2 : Nat) (Option.some Jvm.ClassFile.FieldType.int) ∈ lwg := gm (List.mem_append_right _ (List.mem_append_left _ (List.mem_of_getElem? (i := 231) rfl))) rfl
set_option maxRecDepth 10000 in
theorem w_232 : Jvm.Cond.methodLink "LearnedRankerLaw" (40 : Nat) y_X_train ∈ lwg := gm (List.mem_append_right _ (List.mem_append_left _ (List.mem_of_getElem? (i := 232) rfl))) rfl
set_option maxRecDepth 10000 in
theorem w_233 : Jvm.Cond.instanceMethod y_X_train ∈ lwg := gm (List.mem_append_right _ (List.mem_append_left _ (List.mem_of_getElem? (i := 233) rfl))) rfl
set_option maxRecDepth 10000 in
theorem w_234 : Jvm.Cond.selects "LearnedRanker" y_X_train y_X_train ∈ lwg := gm (List.mem_append_right _ (List.mem_append_left _ (List.mem_of_getElem? (i := 234) rfl))) rfl
set_option maxRecDepth 10000 in
theorem w_235 : Jvm.Cond.code y_X_train prog_1_method_8_code (6 : Nat) (Option.some Jvm.ClassFile.FieldType.int) ∈ lwg := gm (List.mem_append_right _ (List.mem_append_left _ (List.mem_of_getElem? (i := 235) rfl))) rfl
set_option maxRecDepth 10000 in
theorem w_236 : Jvm.Cond.methodLink "LearnedRanker" (92 : Nat) y_Fo_clear ∈ lwg := gm (List.mem_append_right _ (List.mem_append_left _ (List.mem_of_getElem? (i := 236) rfl))) rfl
set_option maxRecDepth 10000 in
theorem w_237 : Jvm.Cond.instanceMethod y_Fo_clear ∈ lwg := gm (List.mem_append_right _ (List.mem_append_left _ (List.mem_of_getElem? (i := 237) rfl))) rfl
set_option maxRecDepth 10000 in
theorem w_238 : Jvm.Cond.selects "LearnedRanker$Forest" y_Fo_clear y_Fo_clear ∈ lwg := gm (List.mem_append_right _ (List.mem_append_left _ (List.mem_of_getElem? (i := 238) rfl))) rfl
set_option maxRecDepth 10000 in
theorem w_239 : Jvm.Cond.code y_Fo_clear prog_2_method_2_code (1 : Nat) (Option.none : Option Jvm.ClassFile.FieldType) ∈ lwg := gm (List.mem_append_right _ (List.mem_append_left _ (List.mem_of_getElem? (i := 239) rfl))) rfl
set_option maxRecDepth 10000 in
theorem w_240 : Jvm.Cond.methodLink "LearnedRanker" (95 : Nat) y_X_gatherSamples ∈ lwg := gm (List.mem_append_right _ (List.mem_append_right _ (List.mem_append_left _ (List.mem_of_getElem? (i := 0) rfl)))) rfl
set_option maxRecDepth 10000 in
theorem w_241 : Jvm.Cond.privateMethod y_X_gatherSamples ∈ lw_tbl := List.mem_append_right _ (List.mem_append_right _ (List.mem_append_left _ (List.mem_of_getElem? (i := 1) rfl)))
set_option maxRecDepth 10000 in
theorem w_242 : Jvm.Cond.instanceMethod y_X_gatherSamples ∈ lwg := gm (List.mem_append_right _ (List.mem_append_right _ (List.mem_append_left _ (List.mem_of_getElem? (i := 2) rfl)))) rfl
set_option maxRecDepth 10000 in
theorem w_243 : Jvm.Cond.code y_X_gatherSamples prog_1_method_20_code (3 : Nat) (Option.none : Option Jvm.ClassFile.FieldType) ∈ lwg := gm (List.mem_append_right _ (List.mem_append_right _ (List.mem_append_left _ (List.mem_of_getElem? (i := 3) rfl)))) rfl
set_option maxRecDepth 10000 in
theorem w_244 : Jvm.Cond.methodLink "LearnedRanker" (189 : Nat) y_Gr_clear ∈ lwg := gm (List.mem_append_right _ (List.mem_append_right _ (List.mem_append_left _ (List.mem_of_getElem? (i := 4) rfl)))) rfl
set_option maxRecDepth 10000 in
theorem w_245 : Jvm.Cond.instanceMethod y_Gr_clear ∈ lwg := gm (List.mem_append_right _ (List.mem_append_right _ (List.mem_append_left _ (List.mem_of_getElem? (i := 5) rfl)))) rfl
set_option maxRecDepth 10000 in
theorem w_246 : Jvm.Cond.selects "LearnedRanker$Grower" y_Gr_clear y_Gr_clear ∈ lwg := gm (List.mem_append_right _ (List.mem_append_right _ (List.mem_append_left _ (List.mem_of_getElem? (i := 6) rfl)))) rfl
set_option maxRecDepth 10000 in
theorem w_247 : Jvm.Cond.code y_Gr_clear prog_3_method_2_code (1 : Nat) (Option.none : Option Jvm.ClassFile.FieldType) ∈ lwg := gm (List.mem_append_right _ (List.mem_append_right _ (List.mem_append_left _ (List.mem_of_getElem? (i := 7) rfl)))) rfl
set_option maxRecDepth 10000 in
theorem w_248 : Jvm.Cond.methodLink "LearnedRanker" (186 : Nat) y_X_isLive ∈ lwg := gm (List.mem_append_right _ (List.mem_append_right _ (List.mem_append_left _ (List.mem_of_getElem? (i := 8) rfl)))) rfl
set_option maxRecDepth 10000 in
theorem w_249 : Jvm.Cond.privateMethod y_X_isLive ∈ lw_tbl := List.mem_append_right _ (List.mem_append_right _ (List.mem_append_left _ (List.mem_of_getElem? (i := 9) rfl)))
set_option maxRecDepth 10000 in
theorem w_250 : Jvm.Cond.instanceMethod y_X_isLive ∈ lwg := gm (List.mem_append_right _ (List.mem_append_right _ (List.mem_append_left _ (List.mem_of_getElem? (i := 10) rfl)))) rfl
set_option maxRecDepth 10000 in
theorem w_251 : Jvm.Cond.code y_X_isLive prog_1_method_18_code (3 : Nat) (Option.some Jvm.ClassFile.FieldType.boolean) ∈ lwg := gm (List.mem_append_right _ (List.mem_append_right _ (List.mem_append_left _ (List.mem_of_getElem? (i := 11) rfl)))) rfl
set_option maxRecDepth 10000 in
theorem w_252 : Jvm.Cond.methodLink "LearnedRanker" (113 : Nat) y_Sh_measure ∈ lwg := gm (List.mem_append_right _ (List.mem_append_right _ (List.mem_append_left _ (List.mem_of_getElem? (i := 12) rfl)))) rfl
set_option maxRecDepth 10000 in
theorem w_253 : Jvm.Cond.instanceMethod y_Sh_measure ∈ lwg := gm (List.mem_append_right _ (List.mem_append_right _ (List.mem_append_left _ (List.mem_of_getElem? (i := 13) rfl)))) rfl
set_option maxRecDepth 10000 in
theorem w_254 : Jvm.Cond.selects "LearnedRanker$Shelf" y_Sh_measure y_Sh_measure ∈ lwg := gm (List.mem_append_right _ (List.mem_append_right _ (List.mem_append_left _ (List.mem_of_getElem? (i := 14) rfl)))) rfl
set_option maxRecDepth 10000 in
theorem w_255 : Jvm.Cond.code y_Sh_measure prog_6_method_8_code (9 : Nat) (Option.none : Option Jvm.ClassFile.FieldType) ∈ lwg := gm (List.mem_append_right _ (List.mem_append_right _ (List.mem_append_left _ (List.mem_of_getElem? (i := 15) rfl)))) rfl
set_option maxRecDepth 10000 in
theorem w_256 : Jvm.Cond.methodLink "LearnedRanker$Shelf" (38 : Nat) y_Math_max ∈ lwg := gm (List.mem_append_right _ (List.mem_append_right _ (List.mem_append_left _ (List.mem_of_getElem? (i := 16) rfl)))) rfl
set_option maxRecDepth 10000 in
theorem w_257 : Jvm.Cond.static y_Math_max ∈ lwg := gm (List.mem_append_right _ (List.mem_append_right _ (List.mem_append_left _ (List.mem_of_getElem? (i := 17) rfl)))) rfl
set_option maxRecDepth 10000 in
theorem w_258 : Jvm.Cond.code y_Math_max prog_11_method_65_code (2 : Nat) (Option.some Jvm.ClassFile.FieldType.int) ∈ lwg := gm (List.mem_append_right _ (List.mem_append_right _ (List.mem_append_left _ (List.mem_of_getElem? (i := 18) rfl)))) rfl
set_option maxRecDepth 10000 in
theorem w_259 : Jvm.Cond.methodLink "LearnedRanker$Shelf" (34 : Nat) y_Sh_sizeOf ∈ lwg := gm (List.mem_append_right _ (List.mem_append_right _ (List.mem_append_left _ (List.mem_of_getElem? (i := 19) rfl)))) rfl
set_option maxRecDepth 10000 in
theorem w_260 : Jvm.Cond.privateMethod y_Sh_sizeOf ∈ lw_tbl := List.mem_append_right _ (List.mem_append_right _ (List.mem_append_left _ (List.mem_of_getElem? (i := 20) rfl)))
set_option maxRecDepth 10000 in
theorem w_261 : Jvm.Cond.instanceMethod y_Sh_sizeOf ∈ lwg := gm (List.mem_append_right _ (List.mem_append_right _ (List.mem_append_left _ (List.mem_of_getElem? (i := 21) rfl)))) rfl
set_option maxRecDepth 10000 in
theorem w_262 : Jvm.Cond.code y_Sh_sizeOf prog_6_method_9_code (4 : Nat) (Option.some Jvm.ClassFile.FieldType.int) ∈ lwg := gm (List.mem_append_right _ (List.mem_append_right _ (List.mem_append_left _ (List.mem_of_getElem? (i := 22) rfl)))) rfl
set_option maxRecDepth 10000 in
theorem w_263 : Jvm.Cond.methodLink "LearnedRanker" (190 : Nat) y_Gr_addSample ∈ lwg := gm (List.mem_append_right _ (List.mem_append_right _ (List.mem_append_left _ (List.mem_of_getElem? (i := 23) rfl)))) rfl
set_option maxRecDepth 10000 in
theorem w_264 : Jvm.Cond.instanceMethod y_Gr_addSample ∈ lwg := gm (List.mem_append_right _ (List.mem_append_right _ (List.mem_append_left _ (List.mem_of_getElem? (i := 24) rfl)))) rfl
set_option maxRecDepth 10000 in
theorem w_265 : Jvm.Cond.selects "LearnedRanker$Grower" y_Gr_addSample y_Gr_addSample ∈ lwg := gm (List.mem_append_right _ (List.mem_append_right _ (List.mem_append_left _ (List.mem_of_getElem? (i := 25) rfl)))) rfl
set_option maxRecDepth 10000 in
theorem w_266 : Jvm.Cond.code y_Gr_addSample prog_3_method_4_code (4 : Nat) (Option.none : Option Jvm.ClassFile.FieldType) ∈ lwg := gm (List.mem_append_right _ (List.mem_append_right _ (List.mem_append_left _ (List.mem_of_getElem? (i := 26) rfl)))) rfl
set_option maxRecDepth 10000 in
theorem w_267 : Jvm.Cond.methodLink "LearnedRanker$Grower" (50 : Nat) y_Gr_insertInOrder ∈ lwg := gm (List.mem_append_right _ (List.mem_append_right _ (List.mem_append_left _ (List.mem_of_getElem? (i := 27) rfl)))) rfl
set_option maxRecDepth 10000 in
theorem w_268 : Jvm.Cond.privateMethod y_Gr_insertInOrder ∈ lw_tbl := List.mem_append_right _ (List.mem_append_right _ (List.mem_append_left _ (List.mem_of_getElem? (i := 28) rfl)))
set_option maxRecDepth 10000 in
theorem w_269 : Jvm.Cond.instanceMethod y_Gr_insertInOrder ∈ lwg := gm (List.mem_append_right _ (List.mem_append_right _ (List.mem_append_left _ (List.mem_of_getElem? (i := 29) rfl)))) rfl
set_option maxRecDepth 10000 in
theorem w_270 : Jvm.Cond.code y_Gr_insertInOrder prog_3_method_5_code (5 : Nat) (Option.none : Option Jvm.ClassFile.FieldType) ∈ lwg := gm (List.mem_append_right _ (List.mem_append_right _ (List.mem_append_left _ (List.mem_of_getElem? (i := 30) rfl)))) rfl
set_option maxRecDepth 10000 in
theorem w_271 : Jvm.Cond.constantLong "LearnedRanker$Grower" (54 : Nat) (65536 : Int64) ∈ lwg := gm (List.mem_append_right _ (List.mem_append_right _ (List.mem_append_left _ (List.mem_of_getElem? (i := 31) rfl)))) rfl
set_option maxRecDepth 10000 in
theorem w_272 : Jvm.Cond.methodLink "LearnedRanker" (98 : Nat) y_Gr_hasSamples ∈ lwg := gm (List.mem_append_right _ (List.mem_append_right _ (List.mem_append_left _ (List.mem_of_getElem? (i := 32) rfl)))) rfl
set_option maxRecDepth 10000 in
theorem w_273 : Jvm.Cond.instanceMethod y_Gr_hasSamples ∈ lwg := gm (List.mem_append_right _ (List.mem_append_right _ (List.mem_append_left _ (List.mem_of_getElem? (i := 33) rfl)))) rfl
set_option maxRecDepth 10000 in
theorem w_274 : Jvm.Cond.selects "LearnedRanker$Grower" y_Gr_hasSamples y_Gr_hasSamples ∈ lwg := gm (List.mem_append_right _ (List.mem_append_right _ (List.mem_append_left _ (List.mem_of_getElem? (i := 34) rfl)))) rfl
set_option maxRecDepth 10000 in
theorem w_275 : Jvm.Cond.code y_Gr_hasSamples prog_3_method_3_code (1 : Nat) (Option.some Jvm.ClassFile.FieldType.boolean) ∈ lwg := gm (List.mem_append_right _ (List.mem_append_right _ (List.mem_append_left _ (List.mem_of_getElem? (i := 35) rfl)))) rfl
set_option maxRecDepth 10000 in
theorem w_276 : Jvm.Cond.methodLink "LearnedRanker" (102 : Nat) y_Fo_nextTree ∈ lwg := gm (List.mem_append_right _ (List.mem_append_right _ (List.mem_append_left _ (List.mem_of_getElem? (i := 36) rfl)))) rfl
set_option maxRecDepth 10000 in
theorem w_277 : Jvm.Cond.instanceMethod y_Fo_nextTree ∈ lwg := gm (List.mem_append_right _ (List.mem_append_right _ (List.mem_append_left _ (List.mem_of_getElem? (i := 37) rfl)))) rfl
set_option maxRecDepth 10000 in
theorem w_278 : Jvm.Cond.selects "LearnedRanker$Forest" y_Fo_nextTree y_Fo_nextTree ∈ lwg := gm (List.mem_append_right _ (List.mem_append_right _ (List.mem_append_left _ (List.mem_of_getElem? (i := 38) rfl)))) rfl
set_option maxRecDepth 10000 in
theorem w_279 : Jvm.Cond.code y_Fo_nextTree prog_2_method_5_code (2 : Nat) (Option.some (Jvm.ClassFile.FieldType.object "LearnedRanker$Tree")) ∈ lwg := gm (List.mem_append_right _ (List.mem_append_right _ (List.mem_append_left _ (List.mem_of_getElem? (i := 39) rfl)))) rfl
set_option maxRecDepth 10000 in
theorem w_280 : Jvm.Cond.methodLink "LearnedRanker$Forest" (22 : Nat) y_Math_min ∈ lwg := gm (List.mem_append_right _ (List.mem_append_right _ (List.mem_append_left _ (List.mem_of_getElem? (i := 40) rfl)))) rfl
set_option maxRecDepth 10000 in
theorem w_281 : Jvm.Cond.static y_Math_min ∈ lwg := gm (List.mem_append_right _ (List.mem_append_right _ (List.mem_append_left _ (List.mem_of_getElem? (i := 41) rfl)))) rfl
set_option maxRecDepth 10000 in
theorem w_282 : Jvm.Cond.code y_Math_min prog_11_method_69_code (2 : Nat) (Option.some Jvm.ClassFile.FieldType.int) ∈ lwg := gm (List.mem_append_right _ (List.mem_append_right _ (List.mem_append_left _ (List.mem_of_getElem? (i := 42) rfl)))) rfl
set_option maxRecDepth 10000 in
theorem w_283 : Jvm.Cond.methodLink "LearnedRanker$Forest" (28 : Nat) y_Tr_clear ∈ lwg := gm (List.mem_append_right _ (List.mem_append_right _ (List.mem_append_left _ (List.mem_of_getElem? (i := 43) rfl)))) rfl
set_option maxRecDepth 10000 in
theorem w_284 : Jvm.Cond.instanceMethod y_Tr_clear ∈ lwg := gm (List.mem_append_right _ (List.mem_append_right _ (List.mem_append_left _ (List.mem_of_getElem? (i := 44) rfl)))) rfl
set_option maxRecDepth 10000 in
theorem w_285 : Jvm.Cond.selects "LearnedRanker$Tree" y_Tr_clear y_Tr_clear ∈ lwg := gm (List.mem_append_right _ (List.mem_append_right _ (List.mem_append_left _ (List.mem_of_getElem? (i := 45) rfl)))) rfl
set_option maxRecDepth 10000 in
theorem w_286 : Jvm.Cond.code y_Tr_clear prog_7_method_2_code (1 : Nat) (Option.none : Option Jvm.ClassFile.FieldType) ∈ lwg := gm (List.mem_append_right _ (List.mem_append_right _ (List.mem_append_left _ (List.mem_of_getElem? (i := 46) rfl)))) rfl
set_option maxRecDepth 10000 in
theorem w_287 : Jvm.Cond.methodLink "LearnedRanker$Tree" (22 : Nat) y_Arrays_fill ∈ lwg := gm (List.mem_append_right _ (List.mem_append_right _ (List.mem_append_left _ (List.mem_of_getElem? (i := 47) rfl)))) rfl
set_option maxRecDepth 10000 in
theorem w_288 : Jvm.Cond.methodLink "LearnedRanker" (106 : Nat) y_Gr_grow ∈ lwg := gm (List.mem_append_right _ (List.mem_append_right _ (List.mem_append_left _ (List.mem_of_getElem? (i := 48) rfl)))) rfl
set_option maxRecDepth 10000 in
theorem w_289 : Jvm.Cond.instanceMethod y_Gr_grow ∈ lwg := gm (List.mem_append_right _ (List.mem_append_right _ (List.mem_append_left _ (List.mem_of_getElem? (i := 49) rfl)))) rfl
set_option maxRecDepth 10000 in
theorem w_290 : Jvm.Cond.selects "LearnedRanker$Grower" y_Gr_grow y_Gr_grow ∈ lwg := gm (List.mem_append_right _ (List.mem_append_right _ (List.mem_append_left _ (List.mem_of_getElem? (i := 50) rfl)))) rfl
set_option maxRecDepth 10000 in
theorem w_291 : Jvm.Cond.code y_Gr_grow prog_3_method_6_code (6 : Nat) (Option.none : Option Jvm.ClassFile.FieldType) ∈ lwg := gm (List.mem_append_right _ (List.mem_append_right _ (List.mem_append_left _ (List.mem_of_getElem? (i := 51) rfl)))) rfl
set_option maxRecDepth 10000 in
theorem w_292 : Jvm.Cond.methodLink "LearnedRanker$Grower" (56 : Nat) y_Arrays_fill ∈ lwg := gm (List.mem_append_right _ (List.mem_append_right _ (List.mem_append_left _ (List.mem_of_getElem? (i := 52) rfl)))) rfl
set_option maxRecDepth 10000 in
theorem w_293 : Jvm.Cond.methodLink "LearnedRanker$Grower" (62 : Nat) y_Gr_sumUp ∈ lwg := gm (List.mem_append_right _ (List.mem_append_right _ (List.mem_append_left _ (List.mem_of_getElem? (i := 53) rfl)))) rfl
set_option maxRecDepth 10000 in
theorem w_294 : Jvm.Cond.privateMethod y_Gr_sumUp ∈ lw_tbl := List.mem_append_right _ (List.mem_append_right _ (List.mem_append_left _ (List.mem_of_getElem? (i := 54) rfl)))
set_option maxRecDepth 10000 in
theorem w_295 : Jvm.Cond.instanceMethod y_Gr_sumUp ∈ lwg := gm (List.mem_append_right _ (List.mem_append_right _ (List.mem_append_left _ (List.mem_of_getElem? (i := 55) rfl)))) rfl
set_option maxRecDepth 10000 in
theorem w_296 : Jvm.Cond.code y_Gr_sumUp prog_3_method_7_code (3 : Nat) (Option.none : Option Jvm.ClassFile.FieldType) ∈ lwg := gm (List.mem_append_right _ (List.mem_append_right _ (List.mem_append_left _ (List.mem_of_getElem? (i := 56) rfl)))) rfl
set_option maxRecDepth 10000 in
theorem w_297 : Jvm.Cond.methodLink "LearnedRanker$Grower" (66 : Nat) y_Gr_findSplit ∈ lwg := gm (List.mem_append_right _ (List.mem_append_right _ (List.mem_append_left _ (List.mem_of_getElem? (i := 57) rfl)))) rfl
set_option maxRecDepth 10000 in
theorem w_298 : Jvm.Cond.privateMethod y_Gr_findSplit ∈ lw_tbl := List.mem_append_right _ (List.mem_append_right _ (List.mem_append_left _ (List.mem_of_getElem? (i := 58) rfl)))
set_option maxRecDepth 10000 in
theorem w_299 : Jvm.Cond.instanceMethod y_Gr_findSplit ∈ lwg := gm (List.mem_append_right _ (List.mem_append_right _ (List.mem_append_left _ (List.mem_of_getElem? (i := 59) rfl)))) rfl
set_option maxRecDepth 10000 in
theorem w_300 : Jvm.Cond.code y_Gr_findSplit prog_3_method_9_code (3 : Nat) (Option.some Jvm.ClassFile.FieldType.boolean) ∈ lwg := gm (List.mem_append_right _ (List.mem_append_right _ (List.mem_append_left _ (List.mem_of_getElem? (i := 60) rfl)))) rfl
set_option maxRecDepth 10000 in
theorem w_301 : Jvm.Cond.methodLink "LearnedRanker$Grower" (96 : Nat) y_Gr_worth ∈ lwg := gm (List.mem_append_right _ (List.mem_append_right _ (List.mem_append_left _ (List.mem_of_getElem? (i := 61) rfl)))) rfl
set_option maxRecDepth 10000 in
theorem w_302 : Jvm.Cond.static y_Gr_worth ∈ lwg := gm (List.mem_append_right _ (List.mem_append_right _ (List.mem_append_left _ (List.mem_of_getElem? (i := 62) rfl)))) rfl
set_option maxRecDepth 10000 in
theorem w_303 : Jvm.Cond.code y_Gr_worth prog_3_method_12_code (3 : Nat) (Option.some Jvm.ClassFile.FieldType.long) ∈ lwg := gm (List.mem_append_right _ (List.mem_append_right _ (List.mem_append_left _ (List.mem_of_getElem? (i := 63) rfl)))) rfl
set_option maxRecDepth 10000 in
theorem w_304 : Jvm.Cond.methodLink "LearnedRanker$Grower" (80 : Nat) y_Gr_share ∈ lwg := gm (List.mem_append_right _ (List.mem_append_right _ (List.mem_append_left _ (List.mem_of_getElem? (i := 64) rfl)))) rfl
set_option maxRecDepth 10000 in
theorem w_305 : Jvm.Cond.static y_Gr_share ∈ lwg := gm (List.mem_append_right _ (List.mem_append_right _ (List.mem_append_left _ (List.mem_of_getElem? (i := 65) rfl)))) rfl
set_option maxRecDepth 10000 in
theorem w_306 : Jvm.Cond.code y_Gr_share prog_3_method_13_code (2 : Nat) (Option.some Jvm.ClassFile.FieldType.int) ∈ lwg := gm (List.mem_append_right _ (List.mem_append_right _ (List.mem_append_left _ (List.mem_of_getElem? (i := 66) rfl)))) rfl
set_option maxRecDepth 10000 in
theorem w_307 : Jvm.Cond.methodLink "LearnedRanker$Grower" (100 : Nat) y_Gr_walkThresholds ∈ lwg := gm (List.mem_append_right _ (List.mem_append_right _ (List.mem_append_left _ (List.mem_of_getElem? (i := 67) rfl)))) rfl
set_option maxRecDepth 10000 in
theorem w_308 : Jvm.Cond.privateMethod y_Gr_walkThresholds ∈ lw_tbl := List.mem_append_right _ (List.mem_append_right _ (List.mem_append_left _ (List.mem_of_getElem? (i := 68) rfl)))
set_option maxRecDepth 10000 in
theorem w_309 : Jvm.Cond.instanceMethod y_Gr_walkThresholds ∈ lwg := gm (List.mem_append_right _ (List.mem_append_right _ (List.mem_append_left _ (List.mem_of_getElem? (i := 69) rfl)))) rfl
set_option maxRecDepth 10000 in
theorem w_310 : Jvm.Cond.code y_Gr_walkThresholds prog_3_method_10_code (9 : Nat) (Option.none : Option Jvm.ClassFile.FieldType) ∈ lwg := gm (List.mem_append_right _ (List.mem_append_right _ (List.mem_append_left _ (List.mem_of_getElem? (i := 70) rfl)))) rfl
set_option maxRecDepth 10000 in
theorem w_311 : Jvm.Cond.methodLink "LearnedRanker$Grower" (103 : Nat) y_Gr_weighSplit ∈ lwg := gm (List.mem_append_right _ (List.mem_append_right _ (List.mem_append_left _ (List.mem_of_getElem? (i := 71) rfl)))) rfl
set_option maxRecDepth 10000 in
theorem w_312 : Jvm.Cond.privateMethod y_Gr_weighSplit ∈ lw_tbl := List.mem_append_right _ (List.mem_append_right _ (List.mem_append_left _ (List.mem_of_getElem? (i := 72) rfl)))
set_option maxRecDepth 10000 in
theorem w_313 : Jvm.Cond.instanceMethod y_Gr_weighSplit ∈ lwg := gm (List.mem_append_right _ (List.mem_append_right _ (List.mem_append_left _ (List.mem_of_getElem? (i := 73) rfl)))) rfl
set_option maxRecDepth 10000 in
theorem w_314 : Jvm.Cond.code y_Gr_weighSplit prog_3_method_11_code (9 : Nat) (Option.none : Option Jvm.ClassFile.FieldType) ∈ lwg := gm (List.mem_append_right _ (List.mem_append_right _ (List.mem_append_left _ (List.mem_of_getElem? (i := 74) rfl)))) rfl
set_option maxRecDepth 10000 in
theorem w_315 : Jvm.Cond.methodLink "LearnedRanker$Grower" (70 : Nat) y_Tr_makeSplit ∈ lwg := gm (List.mem_append_right _ (List.mem_append_right _ (List.mem_append_left _ (List.mem_of_getElem? (i := 75) rfl)))) rfl
set_option maxRecDepth 10000 in
theorem w_316 : Jvm.Cond.instanceMethod y_Tr_makeSplit ∈ lwg := gm (List.mem_append_right _ (List.mem_append_right _ (List.mem_append_left _ (List.mem_of_getElem? (i := 76) rfl)))) rfl
set_option maxRecDepth 10000 in
theorem w_317 : Jvm.Cond.selects "LearnedRanker$Tree" y_Tr_makeSplit y_Tr_makeSplit ∈ lwg := gm (List.mem_append_right _ (List.mem_append_right _ (List.mem_append_left _ (List.mem_of_getElem? (i := 77) rfl)))) rfl
set_option maxRecDepth 10000 in
theorem w_318 : Jvm.Cond.code y_Tr_makeSplit prog_7_method_4_code (4 : Nat) (Option.none : Option Jvm.ClassFile.FieldType) ∈ lwg := gm (List.mem_append_right _ (List.mem_append_right _ (List.mem_append_left _ (List.mem_of_getElem? (i := 78) rfl)))) rfl
set_option maxRecDepth 10000 in
theorem w_319 : Jvm.Cond.methodLink "LearnedRanker$Grower" (76 : Nat) y_Gr_sendOn ∈ lwg := gm (List.mem_append_right _ (List.mem_append_right _ (List.mem_append_left _ (List.mem_of_getElem? (i := 79) rfl)))) rfl
set_option maxRecDepth 10000 in
theorem w_320 : Jvm.Cond.privateMethod y_Gr_sendOn ∈ lw_tbl := List.mem_append_right _ (List.mem_append_right _ (List.mem_append_left _ (List.mem_of_getElem? (i := 80) rfl)))
set_option maxRecDepth 10000 in
theorem w_321 : Jvm.Cond.instanceMethod y_Gr_sendOn ∈ lwg := gm (List.mem_append_right _ (List.mem_append_right _ (List.mem_append_left _ (List.mem_of_getElem? (i := 81) rfl)))) rfl
set_option maxRecDepth 10000 in
theorem w_322 : Jvm.Cond.code y_Gr_sendOn prog_3_method_8_code (4 : Nat) (Option.none : Option Jvm.ClassFile.FieldType) ∈ lwg := gm (List.mem_append_right _ (List.mem_append_right _ (List.mem_append_left _ (List.mem_of_getElem? (i := 82) rfl)))) rfl
set_option maxRecDepth 10000 in
theorem w_323 : Jvm.Cond.methodLink "LearnedRanker$Grower" (92 : Nat) y_Tr_partFor ∈ lwg := gm (List.mem_append_right _ (List.mem_append_right _ (List.mem_append_left _ (List.mem_of_getElem? (i := 83) rfl)))) rfl
set_option maxRecDepth 10000 in
theorem w_324 : Jvm.Cond.instanceMethod y_Tr_partFor ∈ lwg := gm (List.mem_append_right _ (List.mem_append_right _ (List.mem_append_left _ (List.mem_of_getElem? (i := 84) rfl)))) rfl
set_option maxRecDepth 10000 in
theorem w_325 : Jvm.Cond.selects "LearnedRanker$Tree" y_Tr_partFor y_Tr_partFor ∈ lwg := gm (List.mem_append_right _ (List.mem_append_right _ (List.mem_append_left _ (List.mem_of_getElem? (i := 85) rfl)))) rfl
set_option maxRecDepth 10000 in
theorem w_326 : Jvm.Cond.code y_Tr_partFor prog_7_method_13_code (3 : Nat) (Option.some Jvm.ClassFile.FieldType.int) ∈ lwg := gm (List.mem_append_right _ (List.mem_append_right _ (List.mem_append_left _ (List.mem_of_getElem? (i := 86) rfl)))) rfl
set_option maxRecDepth 10000 in
theorem w_327 : Jvm.Cond.methodLink "LearnedRanker$Grower" (84 : Nat) y_Tr_makeLeaf ∈ lwg := gm (List.mem_append_right _ (List.mem_append_right _ (List.mem_append_left _ (List.mem_of_getElem? (i := 87) rfl)))) rfl
set_option maxRecDepth 10000 in
theorem w_328 : Jvm.Cond.instanceMethod y_Tr_makeLeaf ∈ lwg := gm (List.mem_append_right _ (List.mem_append_right _ (List.mem_append_left _ (List.mem_of_getElem? (i := 88) rfl)))) rfl
set_option maxRecDepth 10000 in
theorem w_329 : Jvm.Cond.selects "LearnedRanker$Tree" y_Tr_makeLeaf y_Tr_makeLeaf ∈ lwg := gm (List.mem_append_right _ (List.mem_append_right _ (List.mem_append_left _ (List.mem_of_getElem? (i := 89) rfl)))) rfl
set_option maxRecDepth 10000 in
theorem w_330 : Jvm.Cond.code y_Tr_makeLeaf prog_7_method_3_code (4 : Nat) (Option.none : Option Jvm.ClassFile.FieldType) ∈ lwg := gm (List.mem_append_right _ (List.mem_append_right _ (List.mem_append_left _ (List.mem_of_getElem? (i := 90) rfl)))) rfl
set_option maxRecDepth 10000 in
theorem w_331 : Jvm.Cond.methodLink "LearnedRanker$Grower" (88 : Nat) y_Tr_valueFor ∈ lwg := gm (List.mem_append_right _ (List.mem_append_right _ (List.mem_append_left _ (List.mem_of_getElem? (i := 91) rfl)))) rfl
set_option maxRecDepth 10000 in
theorem w_332 : Jvm.Cond.instanceMethod y_Tr_valueFor ∈ lwg := gm (List.mem_append_right _ (List.mem_append_right _ (List.mem_append_left _ (List.mem_of_getElem? (i := 92) rfl)))) rfl
set_option maxRecDepth 10000 in
theorem w_333 : Jvm.Cond.selects "LearnedRanker$Tree" y_Tr_valueFor y_Tr_valueFor ∈ lwg := gm (List.mem_append_right _ (List.mem_append_right _ (List.mem_append_left _ (List.mem_of_getElem? (i := 93) rfl)))) rfl
set_option maxRecDepth 10000 in
theorem w_334 : Jvm.Cond.code y_Tr_valueFor prog_7_method_14_code (4 : Nat) (Option.some Jvm.ClassFile.FieldType.long) ∈ lwg := gm (List.mem_append_right _ (List.mem_append_right _ (List.mem_append_left _ (List.mem_of_getElem? (i := 94) rfl)))) rfl
set_option maxRecDepth 10000 in
theorem w_335 : Jvm.Cond.methodLink "LearnedRanker$Tree" (32 : Nat) y_Tr_isSplit ∈ lwg := gm (List.mem_append_right _ (List.mem_append_right _ (List.mem_append_left _ (List.mem_of_getElem? (i := 95) rfl)))) rfl
set_option maxRecDepth 10000 in
theorem w_336 : Jvm.Cond.instanceMethod y_Tr_isSplit ∈ lwg := gm (List.mem_append_right _ (List.mem_append_right _ (List.mem_append_left _ (List.mem_of_getElem? (i := 96) rfl)))) rfl
set_option maxRecDepth 10000 in
theorem w_337 : Jvm.Cond.selects "LearnedRanker$Tree" y_Tr_isSplit y_Tr_isSplit ∈ lwg := gm (List.mem_append_right _ (List.mem_append_right _ (List.mem_append_left _ (List.mem_of_getElem? (i := 97) rfl)))) rfl
set_option maxRecDepth 10000 in
theorem w_338 : Jvm.Cond.code y_Tr_isSplit prog_7_method_7_code (2 : Nat) (Option.some Jvm.ClassFile.FieldType.boolean) ∈ lwg := gm (List.mem_append_right _ (List.mem_append_right _ (List.mem_append_left _ (List.mem_of_getElem? (i := 98) rfl)))) rfl
set_option maxRecDepth 10000 in
theorem w_339 : Jvm.Cond.methodLink "LearnedRanker$Tree" (35 : Nat) y_Tr_partFor ∈ lwg := gm (List.mem_append_right _ (List.mem_append_right _ (List.mem_append_left _ (List.mem_of_getElem? (i := 99) rfl)))) rfl
set_option maxRecDepth 10000 in
theorem w_340 : Jvm.Cond.methodLink "LearnedRanker" (110 : Nat) y_Fo_leaves ∈ lwg := gm (List.mem_append_right _ (List.mem_append_right _ (List.mem_append_left _ (List.mem_of_getElem? (i := 100) rfl)))) rfl
set_option maxRecDepth 10000 in
theorem w_341 : Jvm.Cond.instanceMethod y_Fo_leaves ∈ lwg := gm (List.mem_append_right _ (List.mem_append_right _ (List.mem_append_left _ (List.mem_of_getElem? (i := 101) rfl)))) rfl
set_option maxRecDepth 10000 in
theorem w_342 : Jvm.Cond.selects "LearnedRanker$Forest" y_Fo_leaves y_Fo_leaves ∈ lwg := gm (List.mem_append_right _ (List.mem_append_right _ (List.mem_append_left _ (List.mem_of_getElem? (i := 102) rfl)))) rfl
set_option maxRecDepth 10000 in
theorem w_343 : Jvm.Cond.code y_Fo_leaves prog_2_method_6_code (3 : Nat) (Option.some Jvm.ClassFile.FieldType.int) ∈ lwg := gm (List.mem_append_right _ (List.mem_append_right _ (List.mem_append_left _ (List.mem_of_getElem? (i := 103) rfl)))) rfl
set_option maxRecDepth 10000 in
theorem w_344 : Jvm.Cond.methodLink "LearnedRanker$Forest" (31 : Nat) y_Tr_leaves ∈ lwg := gm (List.mem_append_right _ (List.mem_append_right _ (List.mem_append_left _ (List.mem_of_getElem? (i := 104) rfl)))) rfl
set_option maxRecDepth 10000 in
theorem w_345 : Jvm.Cond.instanceMethod y_Tr_leaves ∈ lwg := gm (List.mem_append_right _ (List.mem_append_right _ (List.mem_append_left _ (List.mem_of_getElem? (i := 105) rfl)))) rfl
set_option maxRecDepth 10000 in
theorem w_346 : Jvm.Cond.selects "LearnedRanker$Tree" y_Tr_leaves y_Tr_leaves ∈ lwg := gm (List.mem_append_right _ (List.mem_append_right _ (List.mem_append_left _ (List.mem_of_getElem? (i := 106) rfl)))) rfl
set_option maxRecDepth 10000 in
theorem w_347 : Jvm.Cond.code y_Tr_leaves prog_7_method_8_code (3 : Nat) (Option.some Jvm.ClassFile.FieldType.int) ∈ lwg := gm (List.mem_append_right _ (List.mem_append_right _ (List.mem_append_left _ (List.mem_of_getElem? (i := 107) rfl)))) rfl
set_option maxRecDepth 10000 in
theorem w_348 : Jvm.Cond.methodLink "LearnedRanker$Tree" (28 : Nat) y_Tr_isLeaf ∈ lwg := gm (List.mem_append_right _ (List.mem_append_right _ (List.mem_append_left _ (List.mem_of_getElem? (i := 108) rfl)))) rfl
set_option maxRecDepth 10000 in
theorem w_349 : Jvm.Cond.instanceMethod y_Tr_isLeaf ∈ lwg := gm (List.mem_append_right _ (List.mem_append_right _ (List.mem_append_left _ (List.mem_of_getElem? (i := 109) rfl)))) rfl
set_option maxRecDepth 10000 in
theorem w_350 : Jvm.Cond.selects "LearnedRanker$Tree" y_Tr_isLeaf y_Tr_isLeaf ∈ lwg := gm (List.mem_append_right _ (List.mem_append_right _ (List.mem_append_left _ (List.mem_of_getElem? (i := 110) rfl)))) rfl
set_option maxRecDepth 10000 in
theorem w_351 : Jvm.Cond.code y_Tr_isLeaf prog_7_method_6_code (2 : Nat) (Option.some Jvm.ClassFile.FieldType.boolean) ∈ lwg := gm (List.mem_append_right _ (List.mem_append_right _ (List.mem_append_left _ (List.mem_of_getElem? (i := 111) rfl)))) rfl
set_option maxRecDepth 10000 in
theorem w_352 : Jvm.Cond.methodLink "LearnedRankerLaw" (44 : Nat) y_X_feature ∈ lwg := gm (List.mem_append_right _ (List.mem_append_right _ (List.mem_append_left _ (List.mem_of_getElem? (i := 112) rfl)))) rfl
set_option maxRecDepth 10000 in
theorem w_353 : Jvm.Cond.instanceMethod y_X_feature ∈ lwg := gm (List.mem_append_right _ (List.mem_append_right _ (List.mem_append_left _ (List.mem_of_getElem? (i := 113) rfl)))) rfl
set_option maxRecDepth 10000 in
theorem w_354 : Jvm.Cond.selects "LearnedRanker" y_X_feature y_X_feature ∈ lwg := gm (List.mem_append_right _ (List.mem_append_right _ (List.mem_append_left _ (List.mem_of_getElem? (i := 114) rfl)))) rfl
set_option maxRecDepth 10000 in
theorem w_355 : Jvm.Cond.code y_X_feature prog_1_method_9_code (4 : Nat) (Option.some Jvm.ClassFile.FieldType.int) ∈ lwg := gm (List.mem_append_right _ (List.mem_append_right _ (List.mem_append_left _ (List.mem_of_getElem? (i := 115) rfl)))) rfl
set_option maxRecDepth 10000 in
theorem w_356 : Jvm.Cond.methodLink "LearnedRankerLaw" (48 : Nat) y_X_ranked ∈ lwg := gm (List.mem_append_right _ (List.mem_append_right _ (List.mem_append_left _ (List.mem_of_getElem? (i := 116) rfl)))) rfl
set_option maxRecDepth 10000 in
theorem w_357 : Jvm.Cond.instanceMethod y_X_ranked ∈ lwg := gm (List.mem_append_right _ (List.mem_append_right _ (List.mem_append_left _ (List.mem_of_getElem? (i := 117) rfl)))) rfl
set_option maxRecDepth 10000 in
theorem w_358 : Jvm.Cond.selects "LearnedRanker" y_X_ranked y_X_ranked ∈ lwg := gm (List.mem_append_right _ (List.mem_append_right _ (List.mem_append_left _ (List.mem_of_getElem? (i := 118) rfl)))) rfl
set_option maxRecDepth 10000 in
theorem w_359 : Jvm.Cond.code y_X_ranked prog_1_method_10_code (5 : Nat) (Option.some Jvm.ClassFile.FieldType.int) ∈ lwg := gm (List.mem_append_right _ (List.mem_append_right _ (List.mem_append_left _ (List.mem_of_getElem? (i := 119) rfl)))) rfl
set_option maxRecDepth 10000 in
theorem w_360 : Jvm.Cond.methodLink "LearnedRanker" (117 : Nat) y_X_rankAnew ∈ lwg := gm (List.mem_append_right _ (List.mem_append_right _ (List.mem_append_left _ (List.mem_of_getElem? (i := 120) rfl)))) rfl
set_option maxRecDepth 10000 in
theorem w_361 : Jvm.Cond.privateMethod y_X_rankAnew ∈ lw_tbl := List.mem_append_right _ (List.mem_append_right _ (List.mem_append_left _ (List.mem_of_getElem? (i := 121) rfl)))
set_option maxRecDepth 10000 in
theorem w_362 : Jvm.Cond.instanceMethod y_X_rankAnew ∈ lwg := gm (List.mem_append_right _ (List.mem_append_right _ (List.mem_append_left _ (List.mem_of_getElem? (i := 122) rfl)))) rfl
set_option maxRecDepth 10000 in
theorem w_363 : Jvm.Cond.code y_X_rankAnew prog_1_method_23_code (4 : Nat) (Option.some (Jvm.ClassFile.FieldType.object "LearnedRanker$Ranking")) ∈ lwg := gm (List.mem_append_right _ (List.mem_append_right _ (List.mem_append_left _ (List.mem_of_getElem? (i := 123) rfl)))) rfl
set_option maxRecDepth 10000 in
theorem w_364 : Jvm.Cond.methodLink "LearnedRanker" (121 : Nat) y_X_pickCandidates ∈ lwg := gm (List.mem_append_right _ (List.mem_append_right _ (List.mem_append_left _ (List.mem_of_getElem? (i := 124) rfl)))) rfl
set_option maxRecDepth 10000 in
theorem w_365 : Jvm.Cond.privateMethod y_X_pickCandidates ∈ lw_tbl := List.mem_append_right _ (List.mem_append_right _ (List.mem_append_left _ (List.mem_of_getElem? (i := 125) rfl)))
set_option maxRecDepth 10000 in
theorem w_366 : Jvm.Cond.instanceMethod y_X_pickCandidates ∈ lwg := gm (List.mem_append_right _ (List.mem_append_right _ (List.mem_append_left _ (List.mem_of_getElem? (i := 126) rfl)))) rfl
set_option maxRecDepth 10000 in
theorem w_367 : Jvm.Cond.code y_X_pickCandidates prog_1_method_22_code (3 : Nat) (Option.some (Jvm.ClassFile.FieldType.object "LearnedRanker$Ranking")) ∈ lwg := gm (List.mem_append_right _ (List.mem_append_right _ (List.mem_append_left _ (List.mem_of_getElem? (i := 127) rfl)))) rfl
set_option maxRecDepth 10000 in
theorem w_368 : Jvm.Cond.methodLink "LearnedRanker" (198 : Nat) y_Ra_clear ∈ lwg := gm (List.mem_append_right _ (List.mem_append_right _ (List.mem_append_left _ (List.mem_of_getElem? (i := 128) rfl)))) rfl
set_option maxRecDepth 10000 in
theorem w_369 : Jvm.Cond.instanceMethod y_Ra_clear ∈ lwg := gm (List.mem_append_right _ (List.mem_append_right _ (List.mem_append_left _ (List.mem_of_getElem? (i := 129) rfl)))) rfl
set_option maxRecDepth 10000 in
theorem w_370 : Jvm.Cond.selects "LearnedRanker$Ranking" y_Ra_clear y_Ra_clear ∈ lwg := gm (List.mem_append_right _ (List.mem_append_right _ (List.mem_append_left _ (List.mem_of_getElem? (i := 130) rfl)))) rfl
set_option maxRecDepth 10000 in
theorem w_371 : Jvm.Cond.code y_Ra_clear prog_5_method_2_code (1 : Nat) (Option.none : Option Jvm.ClassFile.FieldType) ∈ lwg := gm (List.mem_append_right _ (List.mem_append_right _ (List.mem_append_left _ (List.mem_of_getElem? (i := 131) rfl)))) rfl
set_option maxRecDepth 10000 in
theorem w_372 : Jvm.Cond.methodLink "LearnedRanker" (199 : Nat) y_Ra_insert ∈ lwg := gm (List.mem_append_right _ (List.mem_append_right _ (List.mem_append_left _ (List.mem_of_getElem? (i := 132) rfl)))) rfl
set_option maxRecDepth 10000 in
theorem w_373 : Jvm.Cond.instanceMethod y_Ra_insert ∈ lwg := gm (List.mem_append_right _ (List.mem_append_right _ (List.mem_append_left _ (List.mem_of_getElem? (i := 133) rfl)))) rfl
set_option maxRecDepth 10000 in
theorem w_374 : Jvm.Cond.selects "LearnedRanker$Ranking" y_Ra_insert y_Ra_insert ∈ lwg := gm (List.mem_append_right _ (List.mem_append_right _ (List.mem_append_left _ (List.mem_of_getElem? (i := 134) rfl)))) rfl
set_option maxRecDepth 10000 in
theorem w_375 : Jvm.Cond.code y_Ra_insert prog_5_method_5_code (5 : Nat) (Option.none : Option Jvm.ClassFile.FieldType) ∈ lwg := gm (List.mem_append_right _ (List.mem_append_right _ (List.mem_append_left _ (List.mem_of_getElem? (i := 135) rfl)))) rfl
set_option maxRecDepth 10000 in
theorem w_376 : Jvm.Cond.methodLink "LearnedRanker" (203 : Nat) y_Ra_cutAfter ∈ lwg := gm (List.mem_append_right _ (List.mem_append_right _ (List.mem_append_left _ (List.mem_of_getElem? (i := 136) rfl)))) rfl
set_option maxRecDepth 10000 in
theorem w_377 : Jvm.Cond.instanceMethod y_Ra_cutAfter ∈ lwg := gm (List.mem_append_right _ (List.mem_append_right _ (List.mem_append_left _ (List.mem_of_getElem? (i := 137) rfl)))) rfl
set_option maxRecDepth 10000 in
theorem w_378 : Jvm.Cond.selects "LearnedRanker$Ranking" y_Ra_cutAfter y_Ra_cutAfter ∈ lwg := gm (List.mem_append_right _ (List.mem_append_right _ (List.mem_append_left _ (List.mem_of_getElem? (i := 138) rfl)))) rfl
set_option maxRecDepth 10000 in
theorem w_379 : Jvm.Cond.code y_Ra_cutAfter prog_5_method_6_code (2 : Nat) (Option.none : Option Jvm.ClassFile.FieldType) ∈ lwg := gm (List.mem_append_right _ (List.mem_append_right _ (List.mem_append_left _ (List.mem_of_getElem? (i := 139) rfl)))) rfl
set_option maxRecDepth 10000 in
theorem w_380 : Jvm.Cond.methodLink "LearnedRanker$Ranking" (23 : Nat) y_Math_min ∈ lwg := gm (List.mem_append_right _ (List.mem_append_right _ (List.mem_append_left _ (List.mem_of_getElem? (i := 140) rfl)))) rfl
set_option maxRecDepth 10000 in
theorem w_381 : Jvm.Cond.methodLink "LearnedRanker" (124 : Nat) y_Ra_length ∈ lwg := gm (List.mem_append_right _ (List.mem_append_right _ (List.mem_append_left _ (List.mem_of_getElem? (i := 141) rfl)))) rfl
set_option maxRecDepth 10000 in
theorem w_382 : Jvm.Cond.instanceMethod y_Ra_length ∈ lwg := gm (List.mem_append_right _ (List.mem_append_right _ (List.mem_append_left _ (List.mem_of_getElem? (i := 142) rfl)))) rfl
set_option maxRecDepth 10000 in
theorem w_383 : Jvm.Cond.selects "LearnedRanker$Ranking" y_Ra_length y_Ra_length ∈ lwg := gm (List.mem_append_right _ (List.mem_append_right _ (List.mem_append_left _ (List.mem_of_getElem? (i := 143) rfl)))) rfl
set_option maxRecDepth 10000 in
theorem w_384 : Jvm.Cond.code y_Ra_length prog_5_method_3_code (1 : Nat) (Option.some Jvm.ClassFile.FieldType.int) ∈ lwg := gm (List.mem_append_right _ (List.mem_append_right _ (List.mem_append_left _ (List.mem_of_getElem? (i := 144) rfl)))) rfl
set_option maxRecDepth 10000 in
theorem w_385 : Jvm.Cond.methodLink "LearnedRanker" (127 : Nat) y_Ra_documentAt ∈ lwg := gm (List.mem_append_right _ (List.mem_append_right _ (List.mem_append_left _ (List.mem_of_getElem? (i := 145) rfl)))) rfl
set_option maxRecDepth 10000 in
theorem w_386 : Jvm.Cond.instanceMethod y_Ra_documentAt ∈ lwg := gm (List.mem_append_right _ (List.mem_append_right _ (List.mem_append_left _ (List.mem_of_getElem? (i := 146) rfl)))) rfl
set_option maxRecDepth 10000 in
theorem w_387 : Jvm.Cond.selects "LearnedRanker$Ranking" y_Ra_documentAt y_Ra_documentAt ∈ lwg := gm (List.mem_append_right _ (List.mem_append_right _ (List.mem_append_left _ (List.mem_of_getElem? (i := 147) rfl)))) rfl
set_option maxRecDepth 10000 in
theorem w_388 : Jvm.Cond.code y_Ra_documentAt prog_5_method_4_code (2 : Nat) (Option.some Jvm.ClassFile.FieldType.int) ∈ lwg := gm (List.mem_append_right _ (List.mem_append_right _ (List.mem_append_left _ (List.mem_of_getElem? (i := 148) rfl)))) rfl
set_option maxRecDepth 10000 in
theorem w_389 : Jvm.Cond.methodLink "LearnedRanker" (133 : Nat) y_X_scoreNow ∈ lwg := gm (List.mem_append_right _ (List.mem_append_right _ (List.mem_append_left _ (List.mem_of_getElem? (i := 149) rfl)))) rfl
set_option maxRecDepth 10000 in
theorem w_390 : Jvm.Cond.privateMethod y_X_scoreNow ∈ lw_tbl := List.mem_append_right _ (List.mem_append_right _ (List.mem_append_left _ (List.mem_of_getElem? (i := 150) rfl)))
set_option maxRecDepth 10000 in
theorem w_391 : Jvm.Cond.instanceMethod y_X_scoreNow ∈ lwg := gm (List.mem_append_right _ (List.mem_append_right _ (List.mem_append_left _ (List.mem_of_getElem? (i := 151) rfl)))) rfl
set_option maxRecDepth 10000 in
theorem w_392 : Jvm.Cond.code y_X_scoreNow prog_1_method_21_code (3 : Nat) (Option.some Jvm.ClassFile.FieldType.long) ∈ lwg := gm (List.mem_append_right _ (List.mem_append_right _ (List.mem_append_left _ (List.mem_of_getElem? (i := 152) rfl)))) rfl
set_option maxRecDepth 10000 in
theorem w_393 : Jvm.Cond.methodLink "LearnedRanker" (194 : Nat) y_Fo_valueFor ∈ lwg := gm (List.mem_append_right _ (List.mem_append_right _ (List.mem_append_left _ (List.mem_of_getElem? (i := 153) rfl)))) rfl
set_option maxRecDepth 10000 in
theorem w_394 : Jvm.Cond.instanceMethod y_Fo_valueFor ∈ lwg := gm (List.mem_append_right _ (List.mem_append_right _ (List.mem_append_left _ (List.mem_of_getElem? (i := 154) rfl)))) rfl
set_option maxRecDepth 10000 in
theorem w_395 : Jvm.Cond.selects "LearnedRanker$Forest" y_Fo_valueFor y_Fo_valueFor ∈ lwg := gm (List.mem_append_right _ (List.mem_append_right _ (List.mem_append_left _ (List.mem_of_getElem? (i := 155) rfl)))) rfl
set_option maxRecDepth 10000 in
theorem w_396 : Jvm.Cond.code y_Fo_valueFor prog_2_method_8_code (5 : Nat) (Option.some Jvm.ClassFile.FieldType.long) ∈ lwg := gm (List.mem_append_right _ (List.mem_append_right _ (List.mem_append_left _ (List.mem_of_getElem? (i := 156) rfl)))) rfl
set_option maxRecDepth 10000 in
theorem w_397 : Jvm.Cond.methodLink "LearnedRanker$Forest" (38 : Nat) y_Tr_valueFor ∈ lwg := gm (List.mem_append_right _ (List.mem_append_right _ (List.mem_append_left _ (List.mem_of_getElem? (i := 157) rfl)))) rfl
set_option maxRecDepth 10000 in
theorem w_398 : Jvm.Cond.methodLink "LearnedRankerLaw" (53 : Nat) y_X_score ∈ lwg := gm (List.mem_append_right _ (List.mem_append_right _ (List.mem_append_left _ (List.mem_of_getElem? (i := 158) rfl)))) rfl
set_option maxRecDepth 10000 in
theorem w_399 : Jvm.Cond.instanceMethod y_X_score ∈ lwg := gm (List.mem_append_right _ (List.mem_append_right _ (List.mem_append_left _ (List.mem_of_getElem? (i := 159) rfl)))) rfl
set_option maxRecDepth 10000 in
theorem w_400 : Jvm.Cond.selects "LearnedRanker" y_X_score y_X_score ∈ lwg := gm (List.mem_append_right _ (List.mem_append_right _ (List.mem_append_left _ (List.mem_of_getElem? (i := 160) rfl)))) rfl
set_option maxRecDepth 10000 in
theorem w_401 : Jvm.Cond.code y_X_score prog_1_method_11_code (3 : Nat) (Option.some Jvm.ClassFile.FieldType.long) ∈ lwg := gm (List.mem_append_right _ (List.mem_append_right _ (List.mem_append_left _ (List.mem_of_getElem? (i := 161) rfl)))) rfl
set_option maxRecDepth 10000 in
theorem w_402 : Jvm.Cond.constantLong "LearnedRanker" (131 : Nat) (-1000000000000000 : Int64) ∈ lwg := gm (List.mem_append_right _ (List.mem_append_right _ (List.mem_append_left _ (List.mem_of_getElem? (i := 162) rfl)))) rfl
set_option maxRecDepth 10000 in
theorem w_403 : Jvm.Cond.methodLink "LearnedRankerLaw" (58 : Nat) y_X_merit ∈ lwg := gm (List.mem_append_right _ (List.mem_append_right _ (List.mem_append_left _ (List.mem_of_getElem? (i := 163) rfl)))) rfl
set_option maxRecDepth 10000 in
theorem w_404 : Jvm.Cond.instanceMethod y_X_merit ∈ lwg := gm (List.mem_append_right _ (List.mem_append_right _ (List.mem_append_left _ (List.mem_of_getElem? (i := 164) rfl)))) rfl
set_option maxRecDepth 10000 in
theorem w_405 : Jvm.Cond.selects "LearnedRanker" y_X_merit y_X_merit ∈ lwg := gm (List.mem_append_right _ (List.mem_append_right _ (List.mem_append_left _ (List.mem_of_getElem? (i := 165) rfl)))) rfl
set_option maxRecDepth 10000 in
theorem w_406 : Jvm.Cond.code y_X_merit prog_1_method_12_code (8 : Nat) (Option.some Jvm.ClassFile.FieldType.long) ∈ lwg := gm (List.mem_append_right _ (List.mem_append_right _ (List.mem_append_left _ (List.mem_of_getElem? (i := 166) rfl)))) rfl
set_option maxRecDepth 10000 in
theorem w_407 : Jvm.Cond.constant "LearnedRanker" (137 : Nat) (65536 : Int32) ∈ lwg := gm (List.mem_append_right _ (List.mem_append_right _ (List.mem_append_left _ (List.mem_of_getElem? (i := 167) rfl)))) rfl
set_option maxRecDepth 10000 in
theorem w_408 : Jvm.Cond.methodLink "LearnedRankerLaw" (63 : Nat) y_X_rest ∈ lwg := gm (List.mem_append_right _ (List.mem_append_right _ (List.mem_append_left _ (List.mem_of_getElem? (i := 168) rfl)))) rfl
set_option maxRecDepth 10000 in
theorem w_409 : Jvm.Cond.instanceMethod y_X_rest ∈ lwg := gm (List.mem_append_right _ (List.mem_append_right _ (List.mem_append_left _ (List.mem_of_getElem? (i := 169) rfl)))) rfl
set_option maxRecDepth 10000 in
theorem w_410 : Jvm.Cond.selects "LearnedRanker" y_X_rest y_X_rest ∈ lwg := gm (List.mem_append_right _ (List.mem_append_right _ (List.mem_append_left _ (List.mem_of_getElem? (i := 170) rfl)))) rfl
set_option maxRecDepth 10000 in
theorem w_411 : Jvm.Cond.code y_X_rest prog_1_method_13_code (5 : Nat) (Option.some Jvm.ClassFile.FieldType.long) ∈ lwg := gm (List.mem_append_right _ (List.mem_append_right _ (List.mem_append_left _ (List.mem_of_getElem? (i := 171) rfl)))) rfl
set_option maxRecDepth 10000 in
theorem w_412 : Jvm.Cond.methodLink "LearnedRanker" (138 : Nat) y_Ju_pairOf ∈ lwg := gm (List.mem_append_right _ (List.mem_append_right _ (List.mem_append_left _ (List.mem_of_getElem? (i := 172) rfl)))) rfl
set_option maxRecDepth 10000 in
theorem w_413 : Jvm.Cond.instanceMethod y_Ju_pairOf ∈ lwg := gm (List.mem_append_right _ (List.mem_append_right _ (List.mem_append_left _ (List.mem_of_getElem? (i := 173) rfl)))) rfl
set_option maxRecDepth 10000 in
theorem w_414 : Jvm.Cond.selects "LearnedRanker$Judgements" y_Ju_pairOf y_Ju_pairOf ∈ lwg := gm (List.mem_append_right _ (List.mem_append_right _ (List.mem_append_left _ (List.mem_of_getElem? (i := 174) rfl)))) rfl
set_option maxRecDepth 10000 in
theorem w_415 : Jvm.Cond.code y_Ju_pairOf prog_4_method_5_code (4 : Nat) (Option.some Jvm.ClassFile.FieldType.int) ∈ lwg := gm (List.mem_append_right _ (List.mem_append_right _ (List.mem_append_left _ (List.mem_of_getElem? (i := 175) rfl)))) rfl
set_option maxRecDepth 10000 in
theorem w_416 : Jvm.Cond.constantLong "LearnedRanker" (141 : Nat) (65536 : Int64) ∈ lwg := gm (List.mem_append_right _ (List.mem_append_right _ (List.mem_append_left _ (List.mem_of_getElem? (i := 176) rfl)))) rfl
set_option maxRecDepth 10000 in
theorem w_417 : Jvm.Cond.methodLink "LearnedRankerLaw" (68 : Nat) y_X_node ∈ lwg := gm (List.mem_append_right _ (List.mem_append_right _ (List.mem_append_left _ (List.mem_of_getElem? (i := 177) rfl)))) rfl
set_option maxRecDepth 10000 in
theorem w_418 : Jvm.Cond.instanceMethod y_X_node ∈ lwg := gm (List.mem_append_right _ (List.mem_append_right _ (List.mem_append_left _ (List.mem_of_getElem? (i := 178) rfl)))) rfl
set_option maxRecDepth 10000 in
theorem w_419 : Jvm.Cond.selects "LearnedRanker" y_X_node y_X_node ∈ lwg := gm (List.mem_append_right _ (List.mem_append_right _ (List.mem_append_left _ (List.mem_of_getElem? (i := 179) rfl)))) rfl
set_option maxRecDepth 10000 in
theorem w_420 : Jvm.Cond.code y_X_node prog_1_method_14_code (5 : Nat) (Option.some Jvm.ClassFile.FieldType.long) ∈ lwg := gm (List.mem_append_right _ (List.mem_append_right _ (List.mem_append_left _ (List.mem_of_getElem? (i := 180) rfl)))) rfl
set_option maxRecDepth 10000 in
theorem w_421 : Jvm.Cond.methodLink "LearnedRanker" (143 : Nat) y_Fo_size ∈ lwg := gm (List.mem_append_right _ (List.mem_append_right _ (List.mem_append_left _ (List.mem_of_getElem? (i := 181) rfl)))) rfl
set_option maxRecDepth 10000 in
theorem w_422 : Jvm.Cond.instanceMethod y_Fo_size ∈ lwg := gm (List.mem_append_right _ (List.mem_append_right _ (List.mem_append_left _ (List.mem_of_getElem? (i := 182) rfl)))) rfl
set_option maxRecDepth 10000 in
theorem w_423 : Jvm.Cond.selects "LearnedRanker$Forest" y_Fo_size y_Fo_size ∈ lwg := gm (List.mem_append_right _ (List.mem_append_right _ (List.mem_append_left _ (List.mem_of_getElem? (i := 183) rfl)))) rfl
set_option maxRecDepth 10000 in
theorem w_424 : Jvm.Cond.code y_Fo_size prog_2_method_3_code (1 : Nat) (Option.some Jvm.ClassFile.FieldType.int) ∈ lwg := gm (List.mem_append_right _ (List.mem_append_right _ (List.mem_append_left _ (List.mem_of_getElem? (i := 184) rfl)))) rfl
set_option maxRecDepth 10000 in
theorem w_425 : Jvm.Cond.methodLink "LearnedRanker" (146 : Nat) y_Fo_treeAt ∈ lwg := gm (List.mem_append_right _ (List.mem_append_right _ (List.mem_append_left _ (List.mem_of_getElem? (i := 185) rfl)))) rfl
set_option maxRecDepth 10000 in
theorem w_426 : Jvm.Cond.instanceMethod y_Fo_treeAt ∈ lwg := gm (List.mem_append_right _ (List.mem_append_right _ (List.mem_append_left _ (List.mem_of_getElem? (i := 186) rfl)))) rfl
set_option maxRecDepth 10000 in
theorem w_427 : Jvm.Cond.selects "LearnedRanker$Forest" y_Fo_treeAt y_Fo_treeAt ∈ lwg := gm (List.mem_append_right _ (List.mem_append_right _ (List.mem_append_left _ (List.mem_of_getElem? (i := 187) rfl)))) rfl
set_option maxRecDepth 10000 in
theorem w_428 : Jvm.Cond.code y_Fo_treeAt prog_2_method_4_code (2 : Nat) (Option.some (Jvm.ClassFile.FieldType.object "LearnedRanker$Tree")) ∈ lwg := gm (List.mem_append_right _ (List.mem_append_right _ (List.mem_append_left _ (List.mem_of_getElem? (i := 188) rfl)))) rfl
set_option maxRecDepth 10000 in
theorem w_429 : Jvm.Cond.methodLink "LearnedRanker" (150 : Nat) y_Tr_isAbsent ∈ lwg := gm (List.mem_append_right _ (List.mem_append_right _ (List.mem_append_left _ (List.mem_of_getElem? (i := 189) rfl)))) rfl
set_option maxRecDepth 10000 in
theorem w_430 : Jvm.Cond.instanceMethod y_Tr_isAbsent ∈ lwg := gm (List.mem_append_right _ (List.mem_append_right _ (List.mem_append_left _ (List.mem_of_getElem? (i := 190) rfl)))) rfl
set_option maxRecDepth 10000 in
theorem w_431 : Jvm.Cond.selects "LearnedRanker$Tree" y_Tr_isAbsent y_Tr_isAbsent ∈ lwg := gm (List.mem_append_right _ (List.mem_append_right _ (List.mem_append_left _ (List.mem_of_getElem? (i := 191) rfl)))) rfl
set_option maxRecDepth 10000 in
theorem w_432 : Jvm.Cond.code y_Tr_isAbsent prog_7_method_5_code (2 : Nat) (Option.some Jvm.ClassFile.FieldType.boolean) ∈ lwg := gm (List.mem_append_right _ (List.mem_append_right _ (List.mem_append_left _ (List.mem_of_getElem? (i := 192) rfl)))) rfl
set_option maxRecDepth 10000 in
theorem w_433 : Jvm.Cond.methodLink "LearnedRanker" (155 : Nat) y_Tr_featureAt ∈ lwg := gm (List.mem_append_right _ (List.mem_append_right _ (List.mem_append_left _ (List.mem_of_getElem? (i := 193) rfl)))) rfl
set_option maxRecDepth 10000 in
theorem w_434 : Jvm.Cond.instanceMethod y_Tr_featureAt ∈ lwg := gm (List.mem_append_right _ (List.mem_append_right _ (List.mem_append_left _ (List.mem_of_getElem? (i := 194) rfl)))) rfl
set_option maxRecDepth 10000 in
theorem w_435 : Jvm.Cond.selects "LearnedRanker$Tree" y_Tr_featureAt y_Tr_featureAt ∈ lwg := gm (List.mem_append_right _ (List.mem_append_right _ (List.mem_append_left _ (List.mem_of_getElem? (i := 195) rfl)))) rfl
set_option maxRecDepth 10000 in
theorem w_436 : Jvm.Cond.code y_Tr_featureAt prog_7_method_10_code (2 : Nat) (Option.some Jvm.ClassFile.FieldType.int) ∈ lwg := gm (List.mem_append_right _ (List.mem_append_right _ (List.mem_append_left _ (List.mem_of_getElem? (i := 196) rfl)))) rfl
set_option maxRecDepth 10000 in
theorem w_437 : Jvm.Cond.methodLink "LearnedRanker" (158 : Nat) y_Tr_thresholdAt ∈ lwg := gm (List.mem_append_right _ (List.mem_append_right _ (List.mem_append_left _ (List.mem_of_getElem? (i := 197) rfl)))) rfl
set_option maxRecDepth 10000 in
theorem w_438 : Jvm.Cond.instanceMethod y_Tr_thresholdAt ∈ lwg := gm (List.mem_append_right _ (List.mem_append_right _ (List.mem_append_left _ (List.mem_of_getElem? (i := 198) rfl)))) rfl
set_option maxRecDepth 10000 in
theorem w_439 : Jvm.Cond.selects "LearnedRanker$Tree" y_Tr_thresholdAt y_Tr_thresholdAt ∈ lwg := gm (List.mem_append_right _ (List.mem_append_right _ (List.mem_append_left _ (List.mem_of_getElem? (i := 199) rfl)))) rfl
set_option maxRecDepth 10000 in
theorem w_440 : Jvm.Cond.code y_Tr_thresholdAt prog_7_method_11_code (2 : Nat) (Option.some Jvm.ClassFile.FieldType.int) ∈ lwg := gm (List.mem_append_right _ (List.mem_append_right _ (List.mem_append_left _ (List.mem_of_getElem? (i := 200) rfl)))) rfl
set_option maxRecDepth 10000 in
theorem w_441 : Jvm.Cond.methodLink "LearnedRanker" (161 : Nat) y_Tr_isLeaf ∈ lwg := gm (List.mem_append_right _ (List.mem_append_right _ (List.mem_append_left _ (List.mem_of_getElem? (i := 201) rfl)))) rfl
set_option maxRecDepth 10000 in
theorem w_442 : Jvm.Cond.methodLink "LearnedRanker" (164 : Nat) y_Tr_valueAt ∈ lwg := gm (List.mem_append_right _ (List.mem_append_right _ (List.mem_append_left _ (List.mem_of_getElem? (i := 202) rfl)))) rfl
set_option maxRecDepth 10000 in
theorem w_443 : Jvm.Cond.instanceMethod y_Tr_valueAt ∈ lwg := gm (List.mem_append_right _ (List.mem_append_right _ (List.mem_append_left _ (List.mem_of_getElem? (i := 203) rfl)))) rfl
set_option maxRecDepth 10000 in
theorem w_444 : Jvm.Cond.selects "LearnedRanker$Tree" y_Tr_valueAt y_Tr_valueAt ∈ lwg := gm (List.mem_append_right _ (List.mem_append_right _ (List.mem_append_left _ (List.mem_of_getElem? (i := 204) rfl)))) rfl
set_option maxRecDepth 10000 in
theorem w_445 : Jvm.Cond.code y_Tr_valueAt prog_7_method_12_code (2 : Nat) (Option.some Jvm.ClassFile.FieldType.long) ∈ lwg := gm (List.mem_append_right _ (List.mem_append_right _ (List.mem_append_left _ (List.mem_of_getElem? (i := 205) rfl)))) rfl
set_option maxRecDepth 10000 in
theorem w_446 : Jvm.Cond.methodLink "LearnedRankerLaw" (73 : Nat) y_X_count ∈ lwg := gm (List.mem_append_right _ (List.mem_append_right _ (List.mem_append_left _ (List.mem_of_getElem? (i := 206) rfl)))) rfl
set_option maxRecDepth 10000 in
theorem w_447 : Jvm.Cond.instanceMethod y_X_count ∈ lwg := gm (List.mem_append_right _ (List.mem_append_right _ (List.mem_append_left _ (List.mem_of_getElem? (i := 207) rfl)))) rfl
set_option maxRecDepth 10000 in
theorem w_448 : Jvm.Cond.selects "LearnedRanker" y_X_count y_X_count ∈ lwg := gm (List.mem_append_right _ (List.mem_append_right _ (List.mem_append_left _ (List.mem_of_getElem? (i := 208) rfl)))) rfl
set_option maxRecDepth 10000 in
theorem w_449 : Jvm.Cond.code y_X_count prog_1_method_15_code (3 : Nat) (Option.some Jvm.ClassFile.FieldType.int) ∈ lwg := gm (List.mem_append_right _ (List.mem_append_right _ (List.mem_append_left _ (List.mem_of_getElem? (i := 209) rfl)))) rfl
set_option maxRecDepth 10000 in
theorem w_450 : Jvm.Cond.methodLink "LearnedRanker" (168 : Nat) y_Integer_bitCount ∈ lwg := gm (List.mem_append_right _ (List.mem_append_right _ (List.mem_append_left _ (List.mem_of_getElem? (i := 210) rfl)))) rfl
set_option maxRecDepth 10000 in
theorem w_451 : Jvm.Cond.static y_Integer_bitCount ∈ lwg := gm (List.mem_append_right _ (List.mem_append_right _ (List.mem_append_left _ (List.mem_of_getElem? (i := 211) rfl)))) rfl
set_option maxRecDepth 10000 in
theorem w_452 : Jvm.Cond.code y_Integer_bitCount prog_10_method_49_code (1 : Nat) (Option.some Jvm.ClassFile.FieldType.int) ∈ lwg := gm (List.mem_append_right _ (List.mem_append_right _ (List.mem_append_left _ (List.mem_of_getElem? (i := 212) rfl)))) rfl
set_option maxRecDepth 10000 in
theorem w_453 : Jvm.Cond.constant "java/lang/Integer" (265 : Nat) (1431655765 : Int32) ∈ lwg := gm (List.mem_append_right _ (List.mem_append_right _ (List.mem_append_left _ (List.mem_of_getElem? (i := 213) rfl)))) rfl
set_option maxRecDepth 10000 in
theorem w_454 : Jvm.Cond.constant "java/lang/Integer" (266 : Nat) (858993459 : Int32) ∈ lwg := gm (List.mem_append_right _ (List.mem_append_right _ (List.mem_append_left _ (List.mem_of_getElem? (i := 214) rfl)))) rfl
set_option maxRecDepth 10000 in
theorem w_455 : Jvm.Cond.constant "java/lang/Integer" (267 : Nat) (252645135 : Int32) ∈ lwg := gm (List.mem_append_right _ (List.mem_append_right _ (List.mem_append_left _ (List.mem_of_getElem? (i := 215) rfl)))) rfl
set_option maxRecDepth 10000 in
theorem w_456 : Jvm.Cond.methodLink "LearnedRanker" (173 : Nat) y_Sh_number ∈ lwg := gm (List.mem_append_right _ (List.mem_append_right _ (List.mem_append_left _ (List.mem_of_getElem? (i := 216) rfl)))) rfl
set_option maxRecDepth 10000 in
theorem w_457 : Jvm.Cond.instanceMethod y_Sh_number ∈ lwg := gm (List.mem_append_right _ (List.mem_append_right _ (List.mem_append_left _ (List.mem_of_getElem? (i := 217) rfl)))) rfl
set_option maxRecDepth 10000 in
theorem w_458 : Jvm.Cond.selects "LearnedRanker$Shelf" y_Sh_number y_Sh_number ∈ lwg := gm (List.mem_append_right _ (List.mem_append_right _ (List.mem_append_left _ (List.mem_of_getElem? (i := 218) rfl)))) rfl
set_option maxRecDepth 10000 in
theorem w_459 : Jvm.Cond.code y_Sh_number prog_6_method_6_code (3 : Nat) (Option.some Jvm.ClassFile.FieldType.int) ∈ lwg := gm (List.mem_append_right _ (List.mem_append_right _ (List.mem_append_left _ (List.mem_of_getElem? (i := 219) rfl)))) rfl
set_option maxRecDepth 10000 in
theorem w_460 : Jvm.Cond.methodLink "LearnedRanker" (174 : Nat) y_X_liveJudgements ∈ lwg := gm (List.mem_append_right _ (List.mem_append_right _ (List.mem_append_left _ (List.mem_of_getElem? (i := 220) rfl)))) rfl
set_option maxRecDepth 10000 in
theorem w_461 : Jvm.Cond.privateMethod y_X_liveJudgements ∈ lw_tbl := List.mem_append_right _ (List.mem_append_right _ (List.mem_append_left _ (List.mem_of_getElem? (i := 221) rfl)))
set_option maxRecDepth 10000 in
theorem w_462 : Jvm.Cond.instanceMethod y_X_liveJudgements ∈ lwg := gm (List.mem_append_right _ (List.mem_append_right _ (List.mem_append_left _ (List.mem_of_getElem? (i := 222) rfl)))) rfl
set_option maxRecDepth 10000 in
theorem w_463 : Jvm.Cond.code y_X_liveJudgements prog_1_method_19_code (4 : Nat) (Option.some Jvm.ClassFile.FieldType.int) ∈ lwg := gm (List.mem_append_right _ (List.mem_append_right _ (List.mem_append_left _ (List.mem_of_getElem? (i := 223) rfl)))) rfl
set_option maxRecDepth 10000 in
theorem w_464 : Jvm.Cond.methodLink "LearnedRanker" (177 : Nat) y_Fo_splits ∈ lwg := gm (List.mem_append_right _ (List.mem_append_right _ (List.mem_append_left _ (List.mem_of_getElem? (i := 224) rfl)))) rfl
set_option maxRecDepth 10000 in
theorem w_465 : Jvm.Cond.instanceMethod y_Fo_splits ∈ lwg := gm (List.mem_append_right _ (List.mem_append_right _ (List.mem_append_left _ (List.mem_of_getElem? (i := 225) rfl)))) rfl
set_option maxRecDepth 10000 in
theorem w_466 : Jvm.Cond.selects "LearnedRanker$Forest" y_Fo_splits y_Fo_splits ∈ lwg := gm (List.mem_append_right _ (List.mem_append_right _ (List.mem_append_left _ (List.mem_of_getElem? (i := 226) rfl)))) rfl
set_option maxRecDepth 10000 in
theorem w_467 : Jvm.Cond.code y_Fo_splits prog_2_method_7_code (3 : Nat) (Option.some Jvm.ClassFile.FieldType.int) ∈ lwg := gm (List.mem_append_right _ (List.mem_append_right _ (List.mem_append_left _ (List.mem_of_getElem? (i := 227) rfl)))) rfl
set_option maxRecDepth 10000 in
theorem w_468 : Jvm.Cond.methodLink "LearnedRanker$Forest" (35 : Nat) y_Tr_splits ∈ lwg := gm (List.mem_append_right _ (List.mem_append_right _ (List.mem_append_left _ (List.mem_of_getElem? (i := 228) rfl)))) rfl
set_option maxRecDepth 10000 in
theorem w_469 : Jvm.Cond.instanceMethod y_Tr_splits ∈ lwg := gm (List.mem_append_right _ (List.mem_append_right _ (List.mem_append_left _ (List.mem_of_getElem? (i := 229) rfl)))) rfl
set_option maxRecDepth 10000 in
theorem w_470 : Jvm.Cond.selects "LearnedRanker$Tree" y_Tr_splits y_Tr_splits ∈ lwg := gm (List.mem_append_right _ (List.mem_append_right _ (List.mem_append_left _ (List.mem_of_getElem? (i := 230) rfl)))) rfl
set_option maxRecDepth 10000 in
theorem w_471 : Jvm.Cond.code y_Tr_splits prog_7_method_9_code (3 : Nat) (Option.some Jvm.ClassFile.FieldType.int) ∈ lwg := gm (List.mem_append_right _ (List.mem_append_right _ (List.mem_append_left _ (List.mem_of_getElem? (i := 231) rfl)))) rfl
set_option maxRecDepth 10000 in
theorem w_472 : Jvm.Cond.methodLink "LearnedRanker" (180 : Nat) y_Sh_sumOfSizes ∈ lwg := gm (List.mem_append_right _ (List.mem_append_right _ (List.mem_append_left _ (List.mem_of_getElem? (i := 232) rfl)))) rfl
set_option maxRecDepth 10000 in
theorem w_473 : Jvm.Cond.instanceMethod y_Sh_sumOfSizes ∈ lwg := gm (List.mem_append_right _ (List.mem_append_right _ (List.mem_append_left _ (List.mem_of_getElem? (i := 233) rfl)))) rfl
set_option maxRecDepth 10000 in
theorem w_474 : Jvm.Cond.selects "LearnedRanker$Shelf" y_Sh_sumOfSizes y_Sh_sumOfSizes ∈ lwg := gm (List.mem_append_right _ (List.mem_append_right _ (List.mem_append_left _ (List.mem_of_getElem? (i := 234) rfl)))) rfl
set_option maxRecDepth 10000 in
theorem w_475 : Jvm.Cond.code y_Sh_sumOfSizes prog_6_method_7_code (3 : Nat) (Option.some Jvm.ClassFile.FieldType.int) ∈ lwg := gm (List.mem_append_right _ (List.mem_append_right _ (List.mem_append_left _ (List.mem_of_getElem? (i := 235) rfl)))) rfl
set_option maxRecDepth 10000 in
theorem w_476 : Jvm.Cond.methodLink "LearnedRanker" (183 : Nat) y_Ju_sumOfGrades ∈ lwg := gm (List.mem_append_right _ (List.mem_append_right _ (List.mem_append_left _ (List.mem_of_getElem? (i := 236) rfl)))) rfl
set_option maxRecDepth 10000 in
theorem w_477 : Jvm.Cond.instanceMethod y_Ju_sumOfGrades ∈ lwg := gm (List.mem_append_right _ (List.mem_append_right _ (List.mem_append_left _ (List.mem_of_getElem? (i := 237) rfl)))) rfl
set_option maxRecDepth 10000 in
theorem w_478 : Jvm.Cond.selects "LearnedRanker$Judgements" y_Ju_sumOfGrades y_Ju_sumOfGrades ∈ lwg := gm (List.mem_append_right _ (List.mem_append_right _ (List.mem_append_left _ (List.mem_of_getElem? (i := 238) rfl)))) rfl
set_option maxRecDepth 10000 in
theorem w_479 : Jvm.Cond.code y_Ju_sumOfGrades prog_4_method_6_code (3 : Nat) (Option.some Jvm.ClassFile.FieldType.int) ∈ lwg := gm (List.mem_append_right _ (List.mem_append_right _ (List.mem_append_left _ (List.mem_of_getElem? (i := 239) rfl)))) rfl
set_option maxRecDepth 10000 in
theorem w_480 : Jvm.Cond.classLink "LearnedRankerLaw" (10 : Nat) "LearnedRankerModel" ∈ lwg := gm (List.mem_append_right _ (List.mem_append_right _ (List.mem_append_right _ (List.mem_of_getElem? (i := 0) rfl)))) rfl
set_option maxRecDepth 10000 in
theorem w_481 : Jvm.Cond.instantiable "LearnedRankerModel" (21 : Nat) ∈ lwg := gm (List.mem_append_right _ (List.mem_append_right _ (List.mem_append_right _ (List.mem_of_getElem? (i := 1) rfl)))) rfl
set_option maxRecDepth 10000 in
theorem w_482 : Jvm.Cond.methodLink "LearnedRankerLaw" (12 : Nat) y_M_init ∈ lwg := gm (List.mem_append_right _ (List.mem_append_right _ (List.mem_append_right _ (List.mem_of_getElem? (i := 2) rfl)))) rfl
set_option maxRecDepth 10000 in
theorem w_483 : Jvm.Cond.instanceMethod y_M_init ∈ lwg := gm (List.mem_append_right _ (List.mem_append_right _ (List.mem_append_right _ (List.mem_of_getElem? (i := 3) rfl)))) rfl
set_option maxRecDepth 10000 in
theorem w_484 : Jvm.Cond.code y_M_init prog_9_method_1_code (2 : Nat) (Option.none : Option Jvm.ClassFile.FieldType) ∈ lwg := gm (List.mem_append_right _ (List.mem_append_right _ (List.mem_append_right _ (List.mem_of_getElem? (i := 4) rfl)))) rfl
set_option maxRecDepth 10000 in
theorem w_485 : Jvm.Cond.methodLink "LearnedRankerModel" (1 : Nat) y_Object_init ∈ lwg := gm (List.mem_append_right _ (List.mem_append_right _ (List.mem_append_right _ (List.mem_of_getElem? (i := 5) rfl)))) rfl
set_option maxRecDepth 10000 in
theorem w_486 : Jvm.Cond.fieldLink "LearnedRankerModel" (7 : Nat) "LearnedRankerModel" "there" "[Z" ∈ lwg := gm (List.mem_append_right _ (List.mem_append_right _ (List.mem_append_right _ (List.mem_of_getElem? (i := 6) rfl)))) rfl
set_option maxRecDepth 10000 in
theorem w_487 : Jvm.Cond.fieldLink "LearnedRankerModel" (13 : Nat) "LearnedRankerModel" "quality" "[I" ∈ lwg := gm (List.mem_append_right _ (List.mem_append_right _ (List.mem_append_right _ (List.mem_of_getElem? (i := 7) rfl)))) rfl
set_option maxRecDepth 10000 in
theorem w_488 : Jvm.Cond.fieldLink "LearnedRankerModel" (17 : Nat) "LearnedRankerModel" "terms" "[I" ∈ lwg := gm (List.mem_append_right _ (List.mem_append_right _ (List.mem_append_right _ (List.mem_of_getElem? (i := 8) rfl)))) rfl
set_option maxRecDepth 10000 in
theorem w_489 : Jvm.Cond.fieldLink "LearnedRankerModel" (20 : Nat) "LearnedRankerModel" "query" "[I" ∈ lwg := gm (List.mem_append_right _ (List.mem_append_right _ (List.mem_append_right _ (List.mem_of_getElem? (i := 9) rfl)))) rfl
set_option maxRecDepth 10000 in
theorem w_490 : Jvm.Cond.fieldLink "LearnedRankerModel" (23 : Nat) "LearnedRankerModel" "grade" "[I" ∈ lwg := gm (List.mem_append_right _ (List.mem_append_right _ (List.mem_append_right _ (List.mem_of_getElem? (i := 10) rfl)))) rfl
set_option maxRecDepth 10000 in
theorem w_491 : Jvm.Cond.fieldLink "LearnedRankerModel" (26 : Nat) "LearnedRankerModel" "depth" "I" ∈ lwg := gm (List.mem_append_right _ (List.mem_append_right _ (List.mem_append_right _ (List.mem_of_getElem? (i := 11) rfl)))) rfl
set_option maxRecDepth 10000 in
theorem w_492 : Jvm.Cond.fieldLink "LearnedRankerModel" (30 : Nat) "LearnedRankerModel" "kind" "[I" ∈ lwg := gm (List.mem_append_right _ (List.mem_append_right _ (List.mem_append_right _ (List.mem_of_getElem? (i := 12) rfl)))) rfl
set_option maxRecDepth 10000 in
theorem w_493 : Jvm.Cond.fieldLink "LearnedRankerModel" (33 : Nat) "LearnedRankerModel" "splitBy" "[I" ∈ lwg := gm (List.mem_append_right _ (List.mem_append_right _ (List.mem_append_right _ (List.mem_of_getElem? (i := 13) rfl)))) rfl
set_option maxRecDepth 10000 in
theorem w_494 : Jvm.Cond.fieldLink "LearnedRankerModel" (36 : Nat) "LearnedRankerModel" "threshold" "[I" ∈ lwg := gm (List.mem_append_right _ (List.mem_append_right _ (List.mem_append_right _ (List.mem_of_getElem? (i := 14) rfl)))) rfl
set_option maxRecDepth 10000 in
theorem w_495 : Jvm.Cond.fieldLink "LearnedRankerModel" (39 : Nat) "LearnedRankerModel" "value" "[J" ∈ lwg := gm (List.mem_append_right _ (List.mem_append_right _ (List.mem_append_right _ (List.mem_of_getElem? (i := 15) rfl)))) rfl
set_option maxRecDepth 10000 in
theorem w_496 : Jvm.Cond.fieldLink "LearnedRankerModel" (103 : Nat) "LearnedRankerModel" "trees" "I" ∈ lwg := gm (List.mem_append_right _ (List.mem_append_right _ (List.mem_append_right _ (List.mem_of_getElem? (i := 16) rfl)))) rfl
set_option maxRecDepth 10000 in
theorem w_497 : Jvm.Cond.fieldLink "LearnedRankerModel" (43 : Nat) "LearnedRankerModel" "feature" "[I" ∈ lwg := gm (List.mem_append_right _ (List.mem_append_right _ (List.mem_append_right _ (List.mem_of_getElem? (i := 17) rfl)))) rfl
set_option maxRecDepth 10000 in
theorem w_498 : Jvm.Cond.fieldLink "LearnedRankerModel" (46 : Nat) "LearnedRankerModel" "node" "[I" ∈ lwg := gm (List.mem_append_right _ (List.mem_append_right _ (List.mem_append_right _ (List.mem_of_getElem? (i := 18) rfl)))) rfl
set_option maxRecDepth 10000 in
theorem w_499 : Jvm.Cond.fieldLink "LearnedRankerModel" (49 : Nat) "LearnedRankerModel" "left" "[J" ∈ lwg := gm (List.mem_append_right _ (List.mem_append_right _ (List.mem_append_right _ (List.mem_of_getElem? (i := 19) rfl)))) rfl
set_option maxRecDepth 10000 in
theorem w_500 : Jvm.Cond.fieldLink "LearnedRankerModel" (70 : Nat) "LearnedRankerModel" "samples" "I" ∈ lwg := gm (List.mem_append_right _ (List.mem_append_right _ (List.mem_append_right _ (List.mem_of_getElem? (i := 20) rfl)))) rfl
set_option maxRecDepth 10000 in
theorem w_501 : Jvm.Cond.fieldLink "LearnedRankerModel" (52 : Nat) "LearnedRankerModel" "candidate" "[I" ∈ lwg := gm (List.mem_append_right _ (List.mem_append_right _ (List.mem_append_right _ (List.mem_of_getElem? (i := 21) rfl)))) rfl
set_option maxRecDepth 10000 in
theorem w_502 : Jvm.Cond.fieldLink "LearnedRankerModel" (55 : Nat) "LearnedRankerModel" "learned" "[I" ∈ lwg := gm (List.mem_append_right _ (List.mem_append_right _ (List.mem_append_right _ (List.mem_of_getElem? (i := 22) rfl)))) rfl
set_option maxRecDepth 10000 in
theorem w_503 : Jvm.Cond.fieldLink "LearnedRankerModel" (119 : Nat) "LearnedRankerModel" "candidates" "I" ∈ lwg := gm (List.mem_append_right _ (List.mem_append_right _ (List.mem_append_right _ (List.mem_of_getElem? (i := 23) rfl)))) rfl
set_option maxRecDepth 10000 in
theorem w_504 : Jvm.Cond.fieldLink "LearnedRankerModel" (84 : Nat) "LearnedRankerModel" "bestGain" "J" ∈ lwg := gm (List.mem_append_right _ (List.mem_append_right _ (List.mem_append_right _ (List.mem_of_getElem? (i := 24) rfl)))) rfl
set_option maxRecDepth 10000 in
theorem w_505 : Jvm.Cond.fieldLink "LearnedRankerModel" (77 : Nat) "LearnedRankerModel" "bestFeature" "I" ∈ lwg := gm (List.mem_append_right _ (List.mem_append_right _ (List.mem_append_right _ (List.mem_of_getElem? (i := 25) rfl)))) rfl
set_option maxRecDepth 10000 in
theorem w_506 : Jvm.Cond.fieldLink "LearnedRankerModel" (92 : Nat) "LearnedRankerModel" "bestThreshold" "I" ∈ lwg := gm (List.mem_append_right _ (List.mem_append_right _ (List.mem_append_right _ (List.mem_of_getElem? (i := 26) rfl)))) rfl
set_option maxRecDepth 10000 in
theorem w_507 : Jvm.Cond.laysFinal "LearnedRankerModel" "LearnedRankerModel" "there" "[Z" ∈ lwg := gm (List.mem_append_right _ (List.mem_append_right _ (List.mem_append_right _ (List.mem_of_getElem? (i := 27) rfl)))) rfl
set_option maxRecDepth 10000 in
theorem w_508 : Jvm.Cond.soleField "LearnedRankerModel" "there" ∈ lwg := gm (List.mem_append_right _ (List.mem_append_right _ (List.mem_append_right _ (List.mem_of_getElem? (i := 28) rfl)))) rfl
set_option maxRecDepth 10000 in
theorem w_509 : Jvm.Cond.laysFinal "LearnedRankerModel" "LearnedRankerModel" "quality" "[I" ∈ lwg := gm (List.mem_append_right _ (List.mem_append_right _ (List.mem_append_right _ (List.mem_of_getElem? (i := 29) rfl)))) rfl
set_option maxRecDepth 10000 in
theorem w_510 : Jvm.Cond.soleField "LearnedRankerModel" "quality" ∈ lwg := gm (List.mem_append_right _ (List.mem_append_right _ (List.mem_append_right _ (List.mem_of_getElem? (i := 30) rfl)))) rfl
set_option maxRecDepth 10000 in
theorem w_511 : Jvm.Cond.laysFinal "LearnedRankerModel" "LearnedRankerModel" "terms" "[I" ∈ lwg := gm (List.mem_append_right _ (List.mem_append_right _ (List.mem_append_right _ (List.mem_of_getElem? (i := 31) rfl)))) rfl
set_option maxRecDepth 10000 in
theorem w_512 : Jvm.Cond.soleField "LearnedRankerModel" "terms" ∈ lwg := gm (List.mem_append_right _ (List.mem_append_right _ (List.mem_append_right _ (List.mem_of_getElem? (i := 32) rfl)))) rfl
set_option maxRecDepth 10000 in
theorem w_513 : Jvm.Cond.laysFinal "LearnedRankerModel" "LearnedRankerModel" "query" "[I" ∈ lwg := gm (List.mem_append_right _ (List.mem_append_right _ (List.mem_append_right _ (List.mem_of_getElem? (i := 33) rfl)))) rfl
set_option maxRecDepth 10000 in
theorem w_514 : Jvm.Cond.soleField "LearnedRankerModel" "query" ∈ lwg := gm (List.mem_append_right _ (List.mem_append_right _ (List.mem_append_right _ (List.mem_of_getElem? (i := 34) rfl)))) rfl
set_option maxRecDepth 10000 in
theorem w_515 : Jvm.Cond.laysFinal "LearnedRankerModel" "LearnedRankerModel" "grade" "[I" ∈ lwg := gm (List.mem_append_right _ (List.mem_append_right _ (List.mem_append_right _ (List.mem_of_getElem? (i := 35) rfl)))) rfl
set_option maxRecDepth 10000 in
theorem w_516 : Jvm.Cond.soleField "LearnedRankerModel" "grade" ∈ lwg := gm (List.mem_append_right _ (List.mem_append_right _ (List.mem_append_right _ (List.mem_of_getElem? (i := 36) rfl)))) rfl
set_option maxRecDepth 10000 in
theorem w_517 : Jvm.Cond.lays "LearnedRankerModel" "LearnedRankerModel" "depth" "I" ∈ lwg := gm (List.mem_append_right _ (List.mem_append_right _ (List.mem_append_right _ (List.mem_of_getElem? (i := 37) rfl)))) rfl
set_option maxRecDepth 10000 in
theorem w_518 : Jvm.Cond.soleField "LearnedRankerModel" "depth" ∈ lwg := gm (List.mem_append_right _ (List.mem_append_right _ (List.mem_append_right _ (List.mem_of_getElem? (i := 38) rfl)))) rfl
set_option maxRecDepth 10000 in
theorem w_519 : Jvm.Cond.laysFinal "LearnedRankerModel" "LearnedRankerModel" "kind" "[I" ∈ lwg := gm (List.mem_append_right _ (List.mem_append_right _ (List.mem_append_right _ (List.mem_of_getElem? (i := 39) rfl)))) rfl
set_option maxRecDepth 10000 in
theorem w_520 : Jvm.Cond.soleField "LearnedRankerModel" "kind" ∈ lwg := gm (List.mem_append_right _ (List.mem_append_right _ (List.mem_append_right _ (List.mem_of_getElem? (i := 40) rfl)))) rfl
set_option maxRecDepth 10000 in
theorem w_521 : Jvm.Cond.laysFinal "LearnedRankerModel" "LearnedRankerModel" "splitBy" "[I" ∈ lwg := gm (List.mem_append_right _ (List.mem_append_right _ (List.mem_append_right _ (List.mem_of_getElem? (i := 41) rfl)))) rfl
set_option maxRecDepth 10000 in
theorem w_522 : Jvm.Cond.soleField "LearnedRankerModel" "splitBy" ∈ lwg := gm (List.mem_append_right _ (List.mem_append_right _ (List.mem_append_right _ (List.mem_of_getElem? (i := 42) rfl)))) rfl
set_option maxRecDepth 10000 in
theorem w_523 : Jvm.Cond.laysFinal "LearnedRankerModel" "LearnedRankerModel" "threshold" "[I" ∈ lwg := gm (List.mem_append_right _ (List.mem_append_right _ (List.mem_append_right _ (List.mem_of_getElem? (i := 43) rfl)))) rfl
set_option maxRecDepth 10000 in
theorem w_524 : Jvm.Cond.soleField "LearnedRankerModel" "threshold" ∈ lwg := gm (List.mem_append_right _ (List.mem_append_right _ (List.mem_append_right _ (List.mem_of_getElem? (i := 44) rfl)))) rfl
set_option maxRecDepth 10000 in
theorem w_525 : Jvm.Cond.laysFinal "LearnedRankerModel" "LearnedRankerModel" "value" "[J" ∈ lwg := gm (List.mem_append_right _ (List.mem_append_right _ (List.mem_append_right _ (List.mem_of_getElem? (i := 45) rfl)))) rfl
set_option maxRecDepth 10000 in
theorem w_526 : Jvm.Cond.soleField "LearnedRankerModel" "value" ∈ lwg := gm (List.mem_append_right _ (List.mem_append_right _ (List.mem_append_right _ (List.mem_of_getElem? (i := 46) rfl)))) rfl
set_option maxRecDepth 10000 in
theorem w_527 : Jvm.Cond.lays "LearnedRankerModel" "LearnedRankerModel" "trees" "I" ∈ lwg := gm (List.mem_append_right _ (List.mem_append_right _ (List.mem_append_right _ (List.mem_of_getElem? (i := 47) rfl)))) rfl
set_option maxRecDepth 10000 in
theorem w_528 : Jvm.Cond.soleField "LearnedRankerModel" "trees" ∈ lwg := gm (List.mem_append_right _ (List.mem_append_right _ (List.mem_append_right _ (List.mem_of_getElem? (i := 48) rfl)))) rfl
set_option maxRecDepth 10000 in
theorem w_529 : Jvm.Cond.laysFinal "LearnedRankerModel" "LearnedRankerModel" "feature" "[I" ∈ lwg := gm (List.mem_append_right _ (List.mem_append_right _ (List.mem_append_right _ (List.mem_of_getElem? (i := 49) rfl)))) rfl
set_option maxRecDepth 10000 in
theorem w_530 : Jvm.Cond.soleField "LearnedRankerModel" "feature" ∈ lwg := gm (List.mem_append_right _ (List.mem_append_right _ (List.mem_append_right _ (List.mem_of_getElem? (i := 50) rfl)))) rfl
set_option maxRecDepth 10000 in
theorem w_531 : Jvm.Cond.laysFinal "LearnedRankerModel" "LearnedRankerModel" "node" "[I" ∈ lwg := gm (List.mem_append_right _ (List.mem_append_right _ (List.mem_append_right _ (List.mem_of_getElem? (i := 51) rfl)))) rfl
set_option maxRecDepth 10000 in
theorem w_532 : Jvm.Cond.soleField "LearnedRankerModel" "node" ∈ lwg := gm (List.mem_append_right _ (List.mem_append_right _ (List.mem_append_right _ (List.mem_of_getElem? (i := 52) rfl)))) rfl
set_option maxRecDepth 10000 in
theorem w_533 : Jvm.Cond.laysFinal "LearnedRankerModel" "LearnedRankerModel" "left" "[J" ∈ lwg := gm (List.mem_append_right _ (List.mem_append_right _ (List.mem_append_right _ (List.mem_of_getElem? (i := 53) rfl)))) rfl
set_option maxRecDepth 10000 in
theorem w_534 : Jvm.Cond.soleField "LearnedRankerModel" "left" ∈ lwg := gm (List.mem_append_right _ (List.mem_append_right _ (List.mem_append_right _ (List.mem_of_getElem? (i := 54) rfl)))) rfl
set_option maxRecDepth 10000 in
theorem w_535 : Jvm.Cond.lays "LearnedRankerModel" "LearnedRankerModel" "samples" "I" ∈ lwg := gm (List.mem_append_right _ (List.mem_append_right _ (List.mem_append_right _ (List.mem_of_getElem? (i := 55) rfl)))) rfl
set_option maxRecDepth 10000 in
theorem w_536 : Jvm.Cond.soleField "LearnedRankerModel" "samples" ∈ lwg := gm (List.mem_append_right _ (List.mem_append_right _ (List.mem_append_right _ (List.mem_of_getElem? (i := 56) rfl)))) rfl
set_option maxRecDepth 10000 in
theorem w_537 : Jvm.Cond.laysFinal "LearnedRankerModel" "LearnedRankerModel" "candidate" "[I" ∈ lwg := gm (List.mem_append_right _ (List.mem_append_right _ (List.mem_append_right _ (List.mem_of_getElem? (i := 57) rfl)))) rfl
set_option maxRecDepth 10000 in
theorem w_538 : Jvm.Cond.soleField "LearnedRankerModel" "candidate" ∈ lwg := gm (List.mem_append_right _ (List.mem_append_right _ (List.mem_append_right _ (List.mem_of_getElem? (i := 58) rfl)))) rfl
set_option maxRecDepth 10000 in
theorem w_539 : Jvm.Cond.laysFinal "LearnedRankerModel" "LearnedRankerModel" "learned" "[I" ∈ lwg := gm (List.mem_append_right _ (List.mem_append_right _ (List.mem_append_right _ (List.mem_of_getElem? (i := 59) rfl)))) rfl
set_option maxRecDepth 10000 in
theorem w_540 : Jvm.Cond.soleField "LearnedRankerModel" "learned" ∈ lwg := gm (List.mem_append_right _ (List.mem_append_right _ (List.mem_append_right _ (List.mem_of_getElem? (i := 60) rfl)))) rfl
set_option maxRecDepth 10000 in
theorem w_541 : Jvm.Cond.lays "LearnedRankerModel" "LearnedRankerModel" "candidates" "I" ∈ lwg := gm (List.mem_append_right _ (List.mem_append_right _ (List.mem_append_right _ (List.mem_of_getElem? (i := 61) rfl)))) rfl
set_option maxRecDepth 10000 in
theorem w_542 : Jvm.Cond.soleField "LearnedRankerModel" "candidates" ∈ lwg := gm (List.mem_append_right _ (List.mem_append_right _ (List.mem_append_right _ (List.mem_of_getElem? (i := 62) rfl)))) rfl
set_option maxRecDepth 10000 in
theorem w_543 : Jvm.Cond.lays "LearnedRankerModel" "LearnedRankerModel" "bestGain" "J" ∈ lwg := gm (List.mem_append_right _ (List.mem_append_right _ (List.mem_append_right _ (List.mem_of_getElem? (i := 63) rfl)))) rfl
set_option maxRecDepth 10000 in
theorem w_544 : Jvm.Cond.soleField "LearnedRankerModel" "bestGain" ∈ lwg := gm (List.mem_append_right _ (List.mem_append_right _ (List.mem_append_right _ (List.mem_of_getElem? (i := 64) rfl)))) rfl
set_option maxRecDepth 10000 in
theorem w_545 : Jvm.Cond.lays "LearnedRankerModel" "LearnedRankerModel" "bestFeature" "I" ∈ lwg := gm (List.mem_append_right _ (List.mem_append_right _ (List.mem_append_right _ (List.mem_of_getElem? (i := 65) rfl)))) rfl
set_option maxRecDepth 10000 in
theorem w_546 : Jvm.Cond.soleField "LearnedRankerModel" "bestFeature" ∈ lwg := gm (List.mem_append_right _ (List.mem_append_right _ (List.mem_append_right _ (List.mem_of_getElem? (i := 66) rfl)))) rfl
set_option maxRecDepth 10000 in
theorem w_547 : Jvm.Cond.lays "LearnedRankerModel" "LearnedRankerModel" "bestThreshold" "I" ∈ lwg := gm (List.mem_append_right _ (List.mem_append_right _ (List.mem_append_right _ (List.mem_of_getElem? (i := 67) rfl)))) rfl
set_option maxRecDepth 10000 in
theorem w_548 : Jvm.Cond.soleField "LearnedRankerModel" "bestThreshold" ∈ lwg := gm (List.mem_append_right _ (List.mem_append_right _ (List.mem_append_right _ (List.mem_of_getElem? (i := 68) rfl)))) rfl
set_option maxRecDepth 10000 in
theorem w_549 : Jvm.Cond.superclass "LearnedRankerModel" "java/lang/Object" ∈ lwg := gm (List.mem_append_right _ (List.mem_append_right _ (List.mem_append_right _ (List.mem_of_getElem? (i := 69) rfl)))) rfl
set_option maxRecDepth 10000 in
theorem w_550 : Jvm.Cond.methodLink "LearnedRankerLaw" (17 : Nat) y_M_document ∈ lwg := gm (List.mem_append_right _ (List.mem_append_right _ (List.mem_append_right _ (List.mem_of_getElem? (i := 70) rfl)))) rfl
set_option maxRecDepth 10000 in
theorem w_551 : Jvm.Cond.instanceMethod y_M_document ∈ lwg := gm (List.mem_append_right _ (List.mem_append_right _ (List.mem_append_right _ (List.mem_of_getElem? (i := 71) rfl)))) rfl
set_option maxRecDepth 10000 in
theorem w_552 : Jvm.Cond.selects "LearnedRankerModel" y_M_document y_M_document ∈ lwg := gm (List.mem_append_right _ (List.mem_append_right _ (List.mem_append_right _ (List.mem_of_getElem? (i := 72) rfl)))) rfl
set_option maxRecDepth 10000 in
theorem w_553 : Jvm.Cond.code y_M_document prog_9_method_4_code (4 : Nat) (Option.some Jvm.ClassFile.FieldType.int) ∈ lwg := gm (List.mem_append_right _ (List.mem_append_right _ (List.mem_append_right _ (List.mem_of_getElem? (i := 73) rfl)))) rfl
set_option maxRecDepth 10000 in
theorem w_554 : Jvm.Cond.methodLink "LearnedRankerModel" (58 : Nat) y_M_in ∈ lwg := gm (List.mem_append_right _ (List.mem_append_right _ (List.mem_append_right _ (List.mem_of_getElem? (i := 74) rfl)))) rfl
set_option maxRecDepth 10000 in
theorem w_555 : Jvm.Cond.static y_M_in ∈ lwg := gm (List.mem_append_right _ (List.mem_append_right _ (List.mem_append_right _ (List.mem_of_getElem? (i := 75) rfl)))) rfl
set_option maxRecDepth 10000 in
theorem w_556 : Jvm.Cond.code y_M_in prog_9_method_2_code (2 : Nat) (Option.some Jvm.ClassFile.FieldType.boolean) ∈ lwg := gm (List.mem_append_right _ (List.mem_append_right _ (List.mem_append_right _ (List.mem_of_getElem? (i := 76) rfl)))) rfl
set_option maxRecDepth 10000 in
theorem w_557 : Jvm.Cond.methodLink "LearnedRankerLaw" (22 : Nat) y_M_remove ∈ lwg := gm (List.mem_append_right _ (List.mem_append_right _ (List.mem_append_right _ (List.mem_of_getElem? (i := 77) rfl)))) rfl
set_option maxRecDepth 10000 in
theorem w_558 : Jvm.Cond.instanceMethod y_M_remove ∈ lwg := gm (List.mem_append_right _ (List.mem_append_right _ (List.mem_append_right _ (List.mem_of_getElem? (i := 78) rfl)))) rfl
set_option maxRecDepth 10000 in
theorem w_559 : Jvm.Cond.selects "LearnedRankerModel" y_M_remove y_M_remove ∈ lwg := gm (List.mem_append_right _ (List.mem_append_right _ (List.mem_append_right _ (List.mem_of_getElem? (i := 79) rfl)))) rfl
set_option maxRecDepth 10000 in
theorem w_560 : Jvm.Cond.code y_M_remove prog_9_method_5_code (2 : Nat) (Option.some Jvm.ClassFile.FieldType.int) ∈ lwg := gm (List.mem_append_right _ (List.mem_append_right _ (List.mem_append_right _ (List.mem_of_getElem? (i := 80) rfl)))) rfl
set_option maxRecDepth 10000 in
theorem w_561 : Jvm.Cond.methodLink "LearnedRankerModel" (62 : Nat) y_M_isThere ∈ lwg := gm (List.mem_append_right _ (List.mem_append_right _ (List.mem_append_right _ (List.mem_of_getElem? (i := 81) rfl)))) rfl
set_option maxRecDepth 10000 in
theorem w_562 : Jvm.Cond.privateMethod y_M_isThere ∈ lw_tbl := List.mem_append_right _ (List.mem_append_right _ (List.mem_append_right _ (List.mem_of_getElem? (i := 82) rfl)))
set_option maxRecDepth 10000 in
theorem w_563 : Jvm.Cond.instanceMethod y_M_isThere ∈ lwg := gm (List.mem_append_right _ (List.mem_append_right _ (List.mem_append_right _ (List.mem_of_getElem? (i := 83) rfl)))) rfl
set_option maxRecDepth 10000 in
theorem w_564 : Jvm.Cond.code y_M_isThere prog_9_method_3_code (2 : Nat) (Option.some Jvm.ClassFile.FieldType.boolean) ∈ lwg := gm (List.mem_append_right _ (List.mem_append_right _ (List.mem_append_right _ (List.mem_of_getElem? (i := 84) rfl)))) rfl
set_option maxRecDepth 10000 in
theorem w_565 : Jvm.Cond.methodLink "LearnedRankerLaw" (27 : Nat) y_M_term ∈ lwg := gm (List.mem_append_right _ (List.mem_append_right _ (List.mem_append_right _ (List.mem_of_getElem? (i := 85) rfl)))) rfl
set_option maxRecDepth 10000 in
theorem w_566 : Jvm.Cond.instanceMethod y_M_term ∈ lwg := gm (List.mem_append_right _ (List.mem_append_right _ (List.mem_append_right _ (List.mem_of_getElem? (i := 86) rfl)))) rfl
set_option maxRecDepth 10000 in
theorem w_567 : Jvm.Cond.selects "LearnedRankerModel" y_M_term y_M_term ∈ lwg := gm (List.mem_append_right _ (List.mem_append_right _ (List.mem_append_right _ (List.mem_of_getElem? (i := 87) rfl)))) rfl
set_option maxRecDepth 10000 in
theorem w_568 : Jvm.Cond.code y_M_term prog_9_method_6_code (4 : Nat) (Option.some Jvm.ClassFile.FieldType.int) ∈ lwg := gm (List.mem_append_right _ (List.mem_append_right _ (List.mem_append_right _ (List.mem_of_getElem? (i := 88) rfl)))) rfl
set_option maxRecDepth 10000 in
theorem w_569 : Jvm.Cond.methodLink "LearnedRankerLaw" (31 : Nat) y_M_query ∈ lwg := gm (List.mem_append_right _ (List.mem_append_right _ (List.mem_append_right _ (List.mem_of_getElem? (i := 89) rfl)))) rfl
set_option maxRecDepth 10000 in
theorem w_570 : Jvm.Cond.instanceMethod y_M_query ∈ lwg := gm (List.mem_append_right _ (List.mem_append_right _ (List.mem_append_right _ (List.mem_of_getElem? (i := 90) rfl)))) rfl
set_option maxRecDepth 10000 in
theorem w_571 : Jvm.Cond.selects "LearnedRankerModel" y_M_query y_M_query ∈ lwg := gm (List.mem_append_right _ (List.mem_append_right _ (List.mem_append_right _ (List.mem_of_getElem? (i := 91) rfl)))) rfl
set_option maxRecDepth 10000 in
theorem w_572 : Jvm.Cond.code y_M_query prog_9_method_7_code (3 : Nat) (Option.some Jvm.ClassFile.FieldType.int) ∈ lwg := gm (List.mem_append_right _ (List.mem_append_right _ (List.mem_append_right _ (List.mem_of_getElem? (i := 92) rfl)))) rfl
set_option maxRecDepth 10000 in
theorem w_573 : Jvm.Cond.methodLink "LearnedRankerLaw" (35 : Nat) y_M_judge ∈ lwg := gm (List.mem_append_right _ (List.mem_append_right _ (List.mem_append_right _ (List.mem_of_getElem? (i := 93) rfl)))) rfl
set_option maxRecDepth 10000 in
theorem w_574 : Jvm.Cond.instanceMethod y_M_judge ∈ lwg := gm (List.mem_append_right _ (List.mem_append_right _ (List.mem_append_right _ (List.mem_of_getElem? (i := 94) rfl)))) rfl
set_option maxRecDepth 10000 in
theorem w_575 : Jvm.Cond.selects "LearnedRankerModel" y_M_judge y_M_judge ∈ lwg := gm (List.mem_append_right _ (List.mem_append_right _ (List.mem_append_right _ (List.mem_of_getElem? (i := 95) rfl)))) rfl
set_option maxRecDepth 10000 in
theorem w_576 : Jvm.Cond.code y_M_judge prog_9_method_9_code (5 : Nat) (Option.some Jvm.ClassFile.FieldType.int) ∈ lwg := gm (List.mem_append_right _ (List.mem_append_right _ (List.mem_append_right _ (List.mem_of_getElem? (i := 96) rfl)))) rfl
set_option maxRecDepth 10000 in
theorem w_577 : Jvm.Cond.methodLink "LearnedRankerModel" (66 : Nat) y_M_judgements ∈ lwg := gm (List.mem_append_right _ (List.mem_append_right _ (List.mem_append_right _ (List.mem_of_getElem? (i := 97) rfl)))) rfl
set_option maxRecDepth 10000 in
theorem w_578 : Jvm.Cond.privateMethod y_M_judgements ∈ lw_tbl := List.mem_append_right _ (List.mem_append_right _ (List.mem_append_right _ (List.mem_of_getElem? (i := 98) rfl)))
set_option maxRecDepth 10000 in
theorem w_579 : Jvm.Cond.instanceMethod y_M_judgements ∈ lwg := gm (List.mem_append_right _ (List.mem_append_right _ (List.mem_append_right _ (List.mem_of_getElem? (i := 99) rfl)))) rfl
set_option maxRecDepth 10000 in
theorem w_580 : Jvm.Cond.code y_M_judgements prog_9_method_8_code (3 : Nat) (Option.some Jvm.ClassFile.FieldType.int) ∈ lwg := gm (List.mem_append_right _ (List.mem_append_right _ (List.mem_append_right _ (List.mem_of_getElem? (i := 100) rfl)))) rfl
set_option maxRecDepth 10000 in
theorem w_581 : Jvm.Cond.methodLink "LearnedRankerLaw" (39 : Nat) y_M_depth ∈ lwg := gm (List.mem_append_right _ (List.mem_append_right _ (List.mem_append_right _ (List.mem_of_getElem? (i := 101) rfl)))) rfl
set_option maxRecDepth 10000 in
theorem w_582 : Jvm.Cond.instanceMethod y_M_depth ∈ lwg := gm (List.mem_append_right _ (List.mem_append_right _ (List.mem_append_right _ (List.mem_of_getElem? (i := 102) rfl)))) rfl
set_option maxRecDepth 10000 in
theorem w_583 : Jvm.Cond.selects "LearnedRankerModel" y_M_depth y_M_depth ∈ lwg := gm (List.mem_append_right _ (List.mem_append_right _ (List.mem_append_right _ (List.mem_of_getElem? (i := 103) rfl)))) rfl
set_option maxRecDepth 10000 in
theorem w_584 : Jvm.Cond.code y_M_depth prog_9_method_10_code (2 : Nat) (Option.some Jvm.ClassFile.FieldType.int) ∈ lwg := gm (List.mem_append_right _ (List.mem_append_right _ (List.mem_append_right _ (List.mem_of_getElem? (i := 104) rfl)))) rfl
set_option maxRecDepth 10000 in
theorem w_585 : Jvm.Cond.methodLink "LearnedRankerLaw" (43 : Nat) y_M_train ∈ lwg := gm (List.mem_append_right _ (List.mem_append_right _ (List.mem_append_right _ (List.mem_of_getElem? (i := 105) rfl)))) rfl
set_option maxRecDepth 10000 in
theorem w_586 : Jvm.Cond.instanceMethod y_M_train ∈ lwg := gm (List.mem_append_right _ (List.mem_append_right _ (List.mem_append_right _ (List.mem_of_getElem? (i := 106) rfl)))) rfl
set_option maxRecDepth 10000 in
theorem w_587 : Jvm.Cond.selects "LearnedRankerModel" y_M_train y_M_train ∈ lwg := gm (List.mem_append_right _ (List.mem_append_right _ (List.mem_append_right _ (List.mem_of_getElem? (i := 107) rfl)))) rfl
set_option maxRecDepth 10000 in
theorem w_588 : Jvm.Cond.code y_M_train prog_9_method_19_code (6 : Nat) (Option.some Jvm.ClassFile.FieldType.int) ∈ lwg := gm (List.mem_append_right _ (List.mem_append_right _ (List.mem_append_right _ (List.mem_of_getElem? (i := 108) rfl)))) rfl
set_option maxRecDepth 10000 in
theorem w_589 : Jvm.Cond.methodLink "LearnedRankerModel" (106 : Nat) y_M_featureOf ∈ lwg := gm (List.mem_append_right _ (List.mem_append_right _ (List.mem_append_right _ (List.mem_of_getElem? (i := 109) rfl)))) rfl
set_option maxRecDepth 10000 in
theorem w_590 : Jvm.Cond.privateMethod y_M_featureOf ∈ lw_tbl := List.mem_append_right _ (List.mem_append_right _ (List.mem_append_right _ (List.mem_of_getElem? (i := 110) rfl)))
set_option maxRecDepth 10000 in
theorem w_591 : Jvm.Cond.instanceMethod y_M_featureOf ∈ lwg := gm (List.mem_append_right _ (List.mem_append_right _ (List.mem_append_right _ (List.mem_of_getElem? (i := 111) rfl)))) rfl
set_option maxRecDepth 10000 in
theorem w_592 : Jvm.Cond.code y_M_featureOf prog_9_method_11_code (10 : Nat) (Option.some Jvm.ClassFile.FieldType.int) ∈ lwg := gm (List.mem_append_right _ (List.mem_append_right _ (List.mem_append_right _ (List.mem_of_getElem? (i := 112) rfl)))) rfl
set_option maxRecDepth 10000 in
theorem w_593 : Jvm.Cond.constantLong "LearnedRankerModel" (110 : Nat) (65536 : Int64) ∈ lwg := gm (List.mem_append_right _ (List.mem_append_right _ (List.mem_append_right _ (List.mem_of_getElem? (i := 113) rfl)))) rfl
set_option maxRecDepth 10000 in
theorem w_594 : Jvm.Cond.methodLink "LearnedRankerModel" (112 : Nat) y_M_grow ∈ lwg := gm (List.mem_append_right _ (List.mem_append_right _ (List.mem_append_right _ (List.mem_of_getElem? (i := 114) rfl)))) rfl
set_option maxRecDepth 10000 in
theorem w_595 : Jvm.Cond.privateMethod y_M_grow ∈ lw_tbl := List.mem_append_right _ (List.mem_append_right _ (List.mem_append_right _ (List.mem_of_getElem? (i := 115) rfl)))
set_option maxRecDepth 10000 in
theorem w_596 : Jvm.Cond.instanceMethod y_M_grow ∈ lwg := gm (List.mem_append_right _ (List.mem_append_right _ (List.mem_append_right _ (List.mem_of_getElem? (i := 116) rfl)))) rfl
set_option maxRecDepth 10000 in
theorem w_597 : Jvm.Cond.code y_M_grow prog_9_method_17_code (6 : Nat) (Option.none : Option Jvm.ClassFile.FieldType) ∈ lwg := gm (List.mem_append_right _ (List.mem_append_right _ (List.mem_append_right _ (List.mem_of_getElem? (i := 117) rfl)))) rfl
set_option maxRecDepth 10000 in
theorem w_598 : Jvm.Cond.methodLink "LearnedRankerModel" (99 : Nat) y_M_growNode ∈ lwg := gm (List.mem_append_right _ (List.mem_append_right _ (List.mem_append_right _ (List.mem_of_getElem? (i := 118) rfl)))) rfl
set_option maxRecDepth 10000 in
theorem w_599 : Jvm.Cond.privateMethod y_M_growNode ∈ lw_tbl := List.mem_append_right _ (List.mem_append_right _ (List.mem_append_right _ (List.mem_of_getElem? (i := 119) rfl)))
set_option maxRecDepth 10000 in
theorem w_600 : Jvm.Cond.instanceMethod y_M_growNode ∈ lwg := gm (List.mem_append_right _ (List.mem_append_right _ (List.mem_append_right _ (List.mem_of_getElem? (i := 120) rfl)))) rfl
set_option maxRecDepth 10000 in
theorem w_601 : Jvm.Cond.code y_M_growNode prog_9_method_16_code (11 : Nat) (Option.none : Option Jvm.ClassFile.FieldType) ∈ lwg := gm (List.mem_append_right _ (List.mem_append_right _ (List.mem_append_right _ (List.mem_of_getElem? (i := 121) rfl)))) rfl
set_option maxRecDepth 10000 in
theorem w_602 : Jvm.Cond.methodLink "LearnedRankerModel" (95 : Nat) y_M_findSplit ∈ lwg := gm (List.mem_append_right _ (List.mem_append_right _ (List.mem_append_right _ (List.mem_of_getElem? (i := 122) rfl)))) rfl
set_option maxRecDepth 10000 in
theorem w_603 : Jvm.Cond.privateMethod y_M_findSplit ∈ lw_tbl := List.mem_append_right _ (List.mem_append_right _ (List.mem_append_right _ (List.mem_of_getElem? (i := 123) rfl)))
set_option maxRecDepth 10000 in
theorem w_604 : Jvm.Cond.instanceMethod y_M_findSplit ∈ lwg := gm (List.mem_append_right _ (List.mem_append_right _ (List.mem_append_right _ (List.mem_of_getElem? (i := 124) rfl)))) rfl
set_option maxRecDepth 10000 in
theorem w_605 : Jvm.Cond.code y_M_findSplit prog_9_method_15_code (8 : Nat) (Option.none : Option Jvm.ClassFile.FieldType) ∈ lwg := gm (List.mem_append_right _ (List.mem_append_right _ (List.mem_append_right _ (List.mem_of_getElem? (i := 125) rfl)))) rfl
set_option maxRecDepth 10000 in
theorem w_606 : Jvm.Cond.methodLink "LearnedRankerModel" (80 : Nat) y_M_part ∈ lwg := gm (List.mem_append_right _ (List.mem_append_right _ (List.mem_append_right _ (List.mem_of_getElem? (i := 126) rfl)))) rfl
set_option maxRecDepth 10000 in
theorem w_607 : Jvm.Cond.privateMethod y_M_part ∈ lw_tbl := List.mem_append_right _ (List.mem_append_right _ (List.mem_append_right _ (List.mem_of_getElem? (i := 127) rfl)))
set_option maxRecDepth 10000 in
theorem w_608 : Jvm.Cond.instanceMethod y_M_part ∈ lwg := gm (List.mem_append_right _ (List.mem_append_right _ (List.mem_append_right _ (List.mem_of_getElem? (i := 128) rfl)))) rfl
set_option maxRecDepth 10000 in
theorem w_609 : Jvm.Cond.code y_M_part prog_9_method_13_code (10 : Nat) (Option.some Jvm.ClassFile.FieldType.long) ∈ lwg := gm (List.mem_append_right _ (List.mem_append_right _ (List.mem_append_right _ (List.mem_of_getElem? (i := 129) rfl)))) rfl
set_option maxRecDepth 10000 in
theorem w_610 : Jvm.Cond.methodLink "LearnedRankerModel" (73 : Nat) y_M_share ∈ lwg := gm (List.mem_append_right _ (List.mem_append_right _ (List.mem_append_right _ (List.mem_of_getElem? (i := 130) rfl)))) rfl
set_option maxRecDepth 10000 in
theorem w_611 : Jvm.Cond.static y_M_share ∈ lwg := gm (List.mem_append_right _ (List.mem_append_right _ (List.mem_append_right _ (List.mem_of_getElem? (i := 131) rfl)))) rfl
set_option maxRecDepth 10000 in
theorem w_612 : Jvm.Cond.code y_M_share prog_9_method_12_code (2 : Nat) (Option.some Jvm.ClassFile.FieldType.int) ∈ lwg := gm (List.mem_append_right _ (List.mem_append_right _ (List.mem_append_right _ (List.mem_of_getElem? (i := 132) rfl)))) rfl
set_option maxRecDepth 10000 in
theorem w_613 : Jvm.Cond.methodLink "LearnedRankerModel" (88 : Nat) y_M_size ∈ lwg := gm (List.mem_append_right _ (List.mem_append_right _ (List.mem_append_right _ (List.mem_of_getElem? (i := 133) rfl)))) rfl
set_option maxRecDepth 10000 in
theorem w_614 : Jvm.Cond.privateMethod y_M_size ∈ lw_tbl := List.mem_append_right _ (List.mem_append_right _ (List.mem_append_right _ (List.mem_of_getElem? (i := 134) rfl)))
set_option maxRecDepth 10000 in
theorem w_615 : Jvm.Cond.instanceMethod y_M_size ∈ lwg := gm (List.mem_append_right _ (List.mem_append_right _ (List.mem_append_right _ (List.mem_of_getElem? (i := 135) rfl)))) rfl
set_option maxRecDepth 10000 in
theorem w_616 : Jvm.Cond.code y_M_size prog_9_method_14_code (7 : Nat) (Option.some Jvm.ClassFile.FieldType.int) ∈ lwg := gm (List.mem_append_right _ (List.mem_append_right _ (List.mem_append_right _ (List.mem_of_getElem? (i := 136) rfl)))) rfl
set_option maxRecDepth 10000 in
theorem w_617 : Jvm.Cond.methodLink "LearnedRankerModel" (116 : Nat) y_M_nodes ∈ lwg := gm (List.mem_append_right _ (List.mem_append_right _ (List.mem_append_right _ (List.mem_of_getElem? (i := 137) rfl)))) rfl
set_option maxRecDepth 10000 in
theorem w_618 : Jvm.Cond.privateMethod y_M_nodes ∈ lw_tbl := List.mem_append_right _ (List.mem_append_right _ (List.mem_append_right _ (List.mem_of_getElem? (i := 138) rfl)))
set_option maxRecDepth 10000 in
theorem w_619 : Jvm.Cond.instanceMethod y_M_nodes ∈ lwg := gm (List.mem_append_right _ (List.mem_append_right _ (List.mem_append_right _ (List.mem_of_getElem? (i := 139) rfl)))) rfl
set_option maxRecDepth 10000 in
theorem w_620 : Jvm.Cond.code y_M_nodes prog_9_method_18_code (4 : Nat) (Option.some Jvm.ClassFile.FieldType.int) ∈ lwg := gm (List.mem_append_right _ (List.mem_append_right _ (List.mem_append_right _ (List.mem_of_getElem? (i := 140) rfl)))) rfl
set_option maxRecDepth 10000 in
theorem w_621 : Jvm.Cond.methodLink "LearnedRankerLaw" (47 : Nat) y_M_feature ∈ lwg := gm (List.mem_append_right _ (List.mem_append_right _ (List.mem_append_right _ (List.mem_of_getElem? (i := 141) rfl)))) rfl
set_option maxRecDepth 10000 in
theorem w_622 : Jvm.Cond.instanceMethod y_M_feature ∈ lwg := gm (List.mem_append_right _ (List.mem_append_right _ (List.mem_append_right _ (List.mem_of_getElem? (i := 142) rfl)))) rfl
set_option maxRecDepth 10000 in
theorem w_623 : Jvm.Cond.selects "LearnedRankerModel" y_M_feature y_M_feature ∈ lwg := gm (List.mem_append_right _ (List.mem_append_right _ (List.mem_append_right _ (List.mem_of_getElem? (i := 143) rfl)))) rfl
set_option maxRecDepth 10000 in
theorem w_624 : Jvm.Cond.code y_M_feature prog_9_method_24_code (4 : Nat) (Option.some Jvm.ClassFile.FieldType.int) ∈ lwg := gm (List.mem_append_right _ (List.mem_append_right _ (List.mem_append_right _ (List.mem_of_getElem? (i := 144) rfl)))) rfl
set_option maxRecDepth 10000 in
theorem w_625 : Jvm.Cond.methodLink "LearnedRankerLaw" (52 : Nat) y_M_ranked ∈ lwg := gm (List.mem_append_right _ (List.mem_append_right _ (List.mem_append_right _ (List.mem_of_getElem? (i := 145) rfl)))) rfl
set_option maxRecDepth 10000 in
theorem w_626 : Jvm.Cond.instanceMethod y_M_ranked ∈ lwg := gm (List.mem_append_right _ (List.mem_append_right _ (List.mem_append_right _ (List.mem_of_getElem? (i := 146) rfl)))) rfl
set_option maxRecDepth 10000 in
theorem w_627 : Jvm.Cond.selects "LearnedRankerModel" y_M_ranked y_M_ranked ∈ lwg := gm (List.mem_append_right _ (List.mem_append_right _ (List.mem_append_right _ (List.mem_of_getElem? (i := 147) rfl)))) rfl
set_option maxRecDepth 10000 in
theorem w_628 : Jvm.Cond.code y_M_ranked prog_9_method_25_code (4 : Nat) (Option.some Jvm.ClassFile.FieldType.int) ∈ lwg := gm (List.mem_append_right _ (List.mem_append_right _ (List.mem_append_right _ (List.mem_of_getElem? (i := 148) rfl)))) rfl
set_option maxRecDepth 10000 in
theorem w_629 : Jvm.Cond.methodLink "LearnedRankerModel" (133 : Nat) y_M_rank ∈ lwg := gm (List.mem_append_right _ (List.mem_append_right _ (List.mem_append_right _ (List.mem_of_getElem? (i := 149) rfl)))) rfl
set_option maxRecDepth 10000 in
theorem w_630 : Jvm.Cond.privateMethod y_M_rank ∈ lw_tbl := List.mem_append_right _ (List.mem_append_right _ (List.mem_append_right _ (List.mem_of_getElem? (i := 150) rfl)))
set_option maxRecDepth 10000 in
theorem w_631 : Jvm.Cond.instanceMethod y_M_rank ∈ lwg := gm (List.mem_append_right _ (List.mem_append_right _ (List.mem_append_right _ (List.mem_of_getElem? (i := 151) rfl)))) rfl
set_option maxRecDepth 10000 in
theorem w_632 : Jvm.Cond.code y_M_rank prog_9_method_23_code (9 : Nat) (Option.none : Option Jvm.ClassFile.FieldType) ∈ lwg := gm (List.mem_append_right _ (List.mem_append_right _ (List.mem_append_right _ (List.mem_of_getElem? (i := 152) rfl)))) rfl
set_option maxRecDepth 10000 in
theorem w_633 : Jvm.Cond.methodLink "LearnedRankerModel" (122 : Nat) y_M_found ∈ lwg := gm (List.mem_append_right _ (List.mem_append_right _ (List.mem_append_right _ (List.mem_of_getElem? (i := 153) rfl)))) rfl
set_option maxRecDepth 10000 in
theorem w_634 : Jvm.Cond.privateMethod y_M_found ∈ lw_tbl := List.mem_append_right _ (List.mem_append_right _ (List.mem_append_right _ (List.mem_of_getElem? (i := 154) rfl)))
set_option maxRecDepth 10000 in
theorem w_635 : Jvm.Cond.instanceMethod y_M_found ∈ lwg := gm (List.mem_append_right _ (List.mem_append_right _ (List.mem_append_right _ (List.mem_of_getElem? (i := 155) rfl)))) rfl
set_option maxRecDepth 10000 in
theorem w_636 : Jvm.Cond.code y_M_found prog_9_method_22_code (3 : Nat) (Option.some Jvm.ClassFile.FieldType.boolean) ∈ lwg := gm (List.mem_append_right _ (List.mem_append_right _ (List.mem_append_right _ (List.mem_of_getElem? (i := 156) rfl)))) rfl
set_option maxRecDepth 10000 in
theorem w_637 : Jvm.Cond.methodLink "LearnedRankerModel" (125 : Nat) y_M_plain ∈ lwg := gm (List.mem_append_right _ (List.mem_append_right _ (List.mem_append_right _ (List.mem_of_getElem? (i := 157) rfl)))) rfl
set_option maxRecDepth 10000 in
theorem w_638 : Jvm.Cond.privateMethod y_M_plain ∈ lw_tbl := List.mem_append_right _ (List.mem_append_right _ (List.mem_append_right _ (List.mem_of_getElem? (i := 158) rfl)))
set_option maxRecDepth 10000 in
theorem w_639 : Jvm.Cond.instanceMethod y_M_plain ∈ lwg := gm (List.mem_append_right _ (List.mem_append_right _ (List.mem_append_right _ (List.mem_of_getElem? (i := 159) rfl)))) rfl
set_option maxRecDepth 10000 in
theorem w_640 : Jvm.Cond.code y_M_plain prog_9_method_21_code (3 : Nat) (Option.some Jvm.ClassFile.FieldType.int) ∈ lwg := gm (List.mem_append_right _ (List.mem_append_right _ (List.mem_append_right _ (List.mem_of_getElem? (i := 160) rfl)))) rfl
set_option maxRecDepth 10000 in
theorem w_641 : Jvm.Cond.methodLink "LearnedRankerModel" (129 : Nat) y_M_scoreOf ∈ lwg := gm (List.mem_append_right _ (List.mem_append_right _ (List.mem_append_right _ (List.mem_of_getElem? (i := 161) rfl)))) rfl
set_option maxRecDepth 10000 in
theorem w_642 : Jvm.Cond.privateMethod y_M_scoreOf ∈ lw_tbl := List.mem_append_right _ (List.mem_append_right _ (List.mem_append_right _ (List.mem_of_getElem? (i := 162) rfl)))
set_option maxRecDepth 10000 in
theorem w_643 : Jvm.Cond.instanceMethod y_M_scoreOf ∈ lwg := gm (List.mem_append_right _ (List.mem_append_right _ (List.mem_append_right _ (List.mem_of_getElem? (i := 163) rfl)))) rfl
set_option maxRecDepth 10000 in
theorem w_644 : Jvm.Cond.code y_M_scoreOf prog_9_method_20_code (7 : Nat) (Option.some Jvm.ClassFile.FieldType.long) ∈ lwg := gm (List.mem_append_right _ (List.mem_append_right _ (List.mem_append_right _ (List.mem_of_getElem? (i := 164) rfl)))) rfl
set_option maxRecDepth 10000 in
theorem w_645 : Jvm.Cond.methodLink "LearnedRankerLaw" (57 : Nat) y_M_score ∈ lwg := gm (List.mem_append_right _ (List.mem_append_right _ (List.mem_append_right _ (List.mem_of_getElem? (i := 165) rfl)))) rfl
set_option maxRecDepth 10000 in
theorem w_646 : Jvm.Cond.instanceMethod y_M_score ∈ lwg := gm (List.mem_append_right _ (List.mem_append_right _ (List.mem_append_right _ (List.mem_of_getElem? (i := 166) rfl)))) rfl
set_option maxRecDepth 10000 in
theorem w_647 : Jvm.Cond.selects "LearnedRankerModel" y_M_score y_M_score ∈ lwg := gm (List.mem_append_right _ (List.mem_append_right _ (List.mem_append_right _ (List.mem_of_getElem? (i := 167) rfl)))) rfl
set_option maxRecDepth 10000 in
theorem w_648 : Jvm.Cond.code y_M_score prog_9_method_26_code (3 : Nat) (Option.some Jvm.ClassFile.FieldType.long) ∈ lwg := gm (List.mem_append_right _ (List.mem_append_right _ (List.mem_append_right _ (List.mem_of_getElem? (i := 168) rfl)))) rfl
set_option maxRecDepth 10000 in
theorem w_649 : Jvm.Cond.constantLong "LearnedRankerModel" (137 : Nat) (-1000000000000000 : Int64) ∈ lwg := gm (List.mem_append_right _ (List.mem_append_right _ (List.mem_append_right _ (List.mem_of_getElem? (i := 169) rfl)))) rfl
set_option maxRecDepth 10000 in
theorem w_650 : Jvm.Cond.methodLink "LearnedRankerLaw" (62 : Nat) y_M_merit ∈ lwg := gm (List.mem_append_right _ (List.mem_append_right _ (List.mem_append_right _ (List.mem_of_getElem? (i := 170) rfl)))) rfl
set_option maxRecDepth 10000 in
theorem w_651 : Jvm.Cond.instanceMethod y_M_merit ∈ lwg := gm (List.mem_append_right _ (List.mem_append_right _ (List.mem_append_right _ (List.mem_of_getElem? (i := 171) rfl)))) rfl
set_option maxRecDepth 10000 in
theorem w_652 : Jvm.Cond.selects "LearnedRankerModel" y_M_merit y_M_merit ∈ lwg := gm (List.mem_append_right _ (List.mem_append_right _ (List.mem_append_right _ (List.mem_of_getElem? (i := 172) rfl)))) rfl
set_option maxRecDepth 10000 in
theorem w_653 : Jvm.Cond.code y_M_merit prog_9_method_27_code (10 : Nat) (Option.some Jvm.ClassFile.FieldType.long) ∈ lwg := gm (List.mem_append_right _ (List.mem_append_right _ (List.mem_append_right _ (List.mem_of_getElem? (i := 173) rfl)))) rfl
set_option maxRecDepth 10000 in
theorem w_654 : Jvm.Cond.constantLong "LearnedRankerModel" (139 : Nat) (2 : Int64) ∈ lwg := gm (List.mem_append_right _ (List.mem_append_right _ (List.mem_append_right _ (List.mem_of_getElem? (i := 174) rfl)))) rfl
set_option maxRecDepth 10000 in
theorem w_655 : Jvm.Cond.methodLink "LearnedRankerLaw" (67 : Nat) y_M_rest ∈ lwg := gm (List.mem_append_right _ (List.mem_append_right _ (List.mem_append_right _ (List.mem_of_getElem? (i := 175) rfl)))) rfl
set_option maxRecDepth 10000 in
theorem w_656 : Jvm.Cond.instanceMethod y_M_rest ∈ lwg := gm (List.mem_append_right _ (List.mem_append_right _ (List.mem_append_right _ (List.mem_of_getElem? (i := 176) rfl)))) rfl
set_option maxRecDepth 10000 in
theorem w_657 : Jvm.Cond.selects "LearnedRankerModel" y_M_rest y_M_rest ∈ lwg := gm (List.mem_append_right _ (List.mem_append_right _ (List.mem_append_right _ (List.mem_of_getElem? (i := 177) rfl)))) rfl
set_option maxRecDepth 10000 in
theorem w_658 : Jvm.Cond.code y_M_rest prog_9_method_28_code (4 : Nat) (Option.some Jvm.ClassFile.FieldType.long) ∈ lwg := gm (List.mem_append_right _ (List.mem_append_right _ (List.mem_append_right _ (List.mem_of_getElem? (i := 178) rfl)))) rfl
set_option maxRecDepth 10000 in
theorem w_659 : Jvm.Cond.methodLink "LearnedRankerLaw" (72 : Nat) y_M_node ∈ lwg := gm (List.mem_append_right _ (List.mem_append_right _ (List.mem_append_right _ (List.mem_of_getElem? (i := 179) rfl)))) rfl
set_option maxRecDepth 10000 in
theorem w_660 : Jvm.Cond.instanceMethod y_M_node ∈ lwg := gm (List.mem_append_right _ (List.mem_append_right _ (List.mem_append_right _ (List.mem_of_getElem? (i := 180) rfl)))) rfl
set_option maxRecDepth 10000 in
theorem w_661 : Jvm.Cond.selects "LearnedRankerModel" y_M_node y_M_node ∈ lwg := gm (List.mem_append_right _ (List.mem_append_right _ (List.mem_append_right _ (List.mem_of_getElem? (i := 181) rfl)))) rfl
set_option maxRecDepth 10000 in
theorem w_662 : Jvm.Cond.code y_M_node prog_9_method_29_code (5 : Nat) (Option.some Jvm.ClassFile.FieldType.long) ∈ lwg := gm (List.mem_append_right _ (List.mem_append_right _ (List.mem_append_right _ (List.mem_of_getElem? (i := 182) rfl)))) rfl
set_option maxRecDepth 10000 in
theorem w_663 : Jvm.Cond.constantLong "LearnedRankerModel" (141 : Nat) (-1 : Int64) ∈ lwg := gm (List.mem_append_right _ (List.mem_append_right _ (List.mem_append_right _ (List.mem_of_getElem? (i := 183) rfl)))) rfl
set_option maxRecDepth 10000 in
theorem w_664 : Jvm.Cond.methodLink "LearnedRankerLaw" (76 : Nat) y_M_count ∈ lwg := gm (List.mem_append_right _ (List.mem_append_right _ (List.mem_append_right _ (List.mem_of_getElem? (i := 184) rfl)))) rfl
set_option maxRecDepth 10000 in
theorem w_665 : Jvm.Cond.instanceMethod y_M_count ∈ lwg := gm (List.mem_append_right _ (List.mem_append_right _ (List.mem_append_right _ (List.mem_of_getElem? (i := 185) rfl)))) rfl
set_option maxRecDepth 10000 in
theorem w_666 : Jvm.Cond.selects "LearnedRankerModel" y_M_count y_M_count ∈ lwg := gm (List.mem_append_right _ (List.mem_append_right _ (List.mem_append_right _ (List.mem_of_getElem? (i := 186) rfl)))) rfl
set_option maxRecDepth 10000 in
theorem w_667 : Jvm.Cond.code y_M_count prog_9_method_30_code (4 : Nat) (Option.some Jvm.ClassFile.FieldType.int) ∈ lwg := gm (List.mem_append_right _ (List.mem_append_right _ (List.mem_append_right _ (List.mem_of_getElem? (i := 187) rfl)))) rfl
set_option maxRecDepth 10000 in
theorem s_0 : Jvm.Cond.selects "LearnedRanker" y_X_gatherSamples y_X_gatherSamples ∈ lwg := gm (List.mem_append_left _ (List.mem_of_getElem? (i := 0) rfl)) rfl
set_option maxRecDepth 10000 in
theorem s_1 : Jvm.Cond.selects "LearnedRanker" y_X_isLive y_X_isLive ∈ lwg := gm (List.mem_append_left _ (List.mem_of_getElem? (i := 1) rfl)) rfl
set_option maxRecDepth 10000 in
theorem s_2 : Jvm.Cond.selects "LearnedRanker$Shelf" y_Sh_sizeOf y_Sh_sizeOf ∈ lwg := gm (List.mem_append_left _ (List.mem_of_getElem? (i := 2) rfl)) rfl
set_option maxRecDepth 10000 in
theorem s_3 : Jvm.Cond.selects "LearnedRanker$Grower" y_Gr_insertInOrder y_Gr_insertInOrder ∈ lwg := gm (List.mem_append_left _ (List.mem_of_getElem? (i := 3) rfl)) rfl
set_option maxRecDepth 10000 in
theorem s_4 : Jvm.Cond.selects "LearnedRanker$Grower" y_Gr_sumUp y_Gr_sumUp ∈ lwg := gm (List.mem_append_left _ (List.mem_of_getElem? (i := 4) rfl)) rfl
set_option maxRecDepth 10000 in
theorem s_5 : Jvm.Cond.selects "LearnedRanker$Grower" y_Gr_findSplit y_Gr_findSplit ∈ lwg := gm (List.mem_append_left _ (List.mem_of_getElem? (i := 5) rfl)) rfl
set_option maxRecDepth 10000 in
theorem s_6 : Jvm.Cond.selects "LearnedRanker$Grower" y_Gr_walkThresholds y_Gr_walkThresholds ∈ lwg := gm (List.mem_append_left _ (List.mem_of_getElem? (i := 6) rfl)) rfl
set_option maxRecDepth 10000 in
theorem s_7 : Jvm.Cond.selects "LearnedRanker$Grower" y_Gr_weighSplit y_Gr_weighSplit ∈ lwg := gm (List.mem_append_left _ (List.mem_of_getElem? (i := 7) rfl)) rfl
set_option maxRecDepth 10000 in
theorem s_8 : Jvm.Cond.selects "LearnedRanker$Grower" y_Gr_sendOn y_Gr_sendOn ∈ lwg := gm (List.mem_append_left _ (List.mem_of_getElem? (i := 8) rfl)) rfl
set_option maxRecDepth 10000 in
theorem s_9 : Jvm.Cond.selects "LearnedRanker" y_X_rankAnew y_X_rankAnew ∈ lwg := gm (List.mem_append_left _ (List.mem_of_getElem? (i := 9) rfl)) rfl
set_option maxRecDepth 10000 in
theorem s_10 : Jvm.Cond.selects "LearnedRanker" y_X_pickCandidates y_X_pickCandidates ∈ lwg := gm (List.mem_append_left _ (List.mem_of_getElem? (i := 10) rfl)) rfl
set_option maxRecDepth 10000 in
theorem s_11 : Jvm.Cond.selects "LearnedRanker" y_X_scoreNow y_X_scoreNow ∈ lwg := gm (List.mem_append_left _ (List.mem_of_getElem? (i := 11) rfl)) rfl
set_option maxRecDepth 10000 in
theorem s_12 : Jvm.Cond.selects "LearnedRanker" y_X_liveJudgements y_X_liveJudgements ∈ lwg := gm (List.mem_append_left _ (List.mem_of_getElem? (i := 12) rfl)) rfl
set_option maxRecDepth 10000 in
theorem s_13 : Jvm.Cond.selects "LearnedRankerModel" y_M_isThere y_M_isThere ∈ lwg := gm (List.mem_append_left _ (List.mem_of_getElem? (i := 13) rfl)) rfl
set_option maxRecDepth 10000 in
theorem s_14 : Jvm.Cond.selects "LearnedRankerModel" y_M_judgements y_M_judgements ∈ lwg := gm (List.mem_append_left _ (List.mem_of_getElem? (i := 14) rfl)) rfl
set_option maxRecDepth 10000 in
theorem s_15 : Jvm.Cond.selects "LearnedRankerModel" y_M_featureOf y_M_featureOf ∈ lwg := gm (List.mem_append_left _ (List.mem_of_getElem? (i := 15) rfl)) rfl
set_option maxRecDepth 10000 in
theorem s_16 : Jvm.Cond.selects "LearnedRankerModel" y_M_grow y_M_grow ∈ lwg := gm (List.mem_append_left _ (List.mem_of_getElem? (i := 16) rfl)) rfl
set_option maxRecDepth 10000 in
theorem s_17 : Jvm.Cond.selects "LearnedRankerModel" y_M_growNode y_M_growNode ∈ lwg := gm (List.mem_append_left _ (List.mem_of_getElem? (i := 17) rfl)) rfl
set_option maxRecDepth 10000 in
theorem s_18 : Jvm.Cond.selects "LearnedRankerModel" y_M_findSplit y_M_findSplit ∈ lwg := gm (List.mem_append_left _ (List.mem_of_getElem? (i := 18) rfl)) rfl
set_option maxRecDepth 10000 in
theorem s_19 : Jvm.Cond.selects "LearnedRankerModel" y_M_part y_M_part ∈ lwg := gm (List.mem_append_left _ (List.mem_of_getElem? (i := 19) rfl)) rfl
set_option maxRecDepth 10000 in
theorem s_20 : Jvm.Cond.selects "LearnedRankerModel" y_M_size y_M_size ∈ lwg := gm (List.mem_append_left _ (List.mem_of_getElem? (i := 20) rfl)) rfl
set_option maxRecDepth 10000 in
theorem s_21 : Jvm.Cond.selects "LearnedRankerModel" y_M_nodes y_M_nodes ∈ lwg := gm (List.mem_append_left _ (List.mem_of_getElem? (i := 21) rfl)) rfl
set_option maxRecDepth 10000 in
theorem s_22 : Jvm.Cond.selects "LearnedRankerModel" y_M_rank y_M_rank ∈ lwg := gm (List.mem_append_left _ (List.mem_of_getElem? (i := 22) rfl)) rfl
set_option maxRecDepth 10000 in
theorem s_23 : Jvm.Cond.selects "LearnedRankerModel" y_M_found y_M_found ∈ lwg := gm (List.mem_append_left _ (List.mem_of_getElem? (i := 23) rfl)) rfl
set_option maxRecDepth 10000 in
theorem s_24 : Jvm.Cond.selects "LearnedRankerModel" y_M_plain y_M_plain ∈ lwg := gm (List.mem_append_left _ (List.mem_of_getElem? (i := 24) rfl)) rfl
set_option maxRecDepth 10000 in
theorem s_25 : Jvm.Cond.selects "LearnedRankerModel" y_M_scoreOf y_M_scoreOf ∈ lwg := gm (List.mem_append_left _ (List.mem_of_getElem? (i := 25) rfl)) rfl
theorem in_Fo : ∀ w ∈ u_ws R_Fo F_Fo 2, w ∈ lwg := by
  intro w h
  obtain ⟨k, hk, rfl⟩ := List.mem_map.mp h
  have hk := List.mem_range.mp hk
  match k, hk with
  | 0, _ => exact w_82
  | 1, _ => exact w_84
  | k + 2, hk => exact absurd hk (by omega)
theorem in_Gr : ∀ w ∈ u_ws R_Gr F_Gr 11, w ∈ lwg := by
  intro w h
  obtain ⟨k, hk, rfl⟩ := List.mem_map.mp h
  have hk := List.mem_range.mp hk
  match k, hk with
  | 0, _ => exact w_105
  | 1, _ => exact w_107
  | 2, _ => exact w_109
  | 3, _ => exact w_111
  | 4, _ => exact w_113
  | 5, _ => exact w_115
  | 6, _ => exact w_117
  | 7, _ => exact w_119
  | 8, _ => exact w_121
  | 9, _ => exact w_123
  | 10, _ => exact w_125
  | k + 11, hk => exact absurd hk (by omega)
theorem in_Ju : ∀ w ∈ u_ws R_Ju F_Ju 2, w ∈ lwg := by
  intro w h
  obtain ⟨k, hk, rfl⟩ := List.mem_map.mp h
  have hk := List.mem_range.mp hk
  match k, hk with
  | 0, _ => exact w_51
  | 1, _ => exact w_53
  | k + 2, hk => exact absurd hk (by omega)
theorem in_Ra : ∀ w ∈ u_ws R_Ra F_Ra 3, w ∈ lwg := by
  intro w h
  obtain ⟨k, hk, rfl⟩ := List.mem_map.mp h
  have hk := List.mem_range.mp hk
  match k, hk with
  | 0, _ => exact w_137
  | 1, _ => exact w_139
  | 2, _ => exact w_141
  | k + 3, hk => exact absurd hk (by omega)
theorem in_Sh : ∀ w ∈ u_ws R_Sh F_Sh 3, w ∈ lwg := by
  intro w h
  obtain ⟨k, hk, rfl⟩ := List.mem_map.mp h
  have hk := List.mem_range.mp hk
  match k, hk with
  | 0, _ => exact w_31
  | 1, _ => exact w_33
  | 2, _ => exact w_35
  | k + 3, hk => exact absurd hk (by omega)
theorem in_Tr : ∀ w ∈ u_ws R_Tr F_Tr 3, w ∈ lwg := by
  intro w h
  obtain ⟨k, hk, rfl⟩ := List.mem_map.mp h
  have hk := List.mem_range.mp hk
  match k, hk with
  | 0, _ => exact w_72
  | 1, _ => exact w_74
  | 2, _ => exact w_76
  | k + 3, hk => exact absurd hk (by omega)
theorem in_X : ∀ w ∈ u_ws R_X F_X 9, w ∈ lwg := by
  intro w h
  obtain ⟨k, hk, rfl⟩ := List.mem_map.mp h
  have hk := List.mem_range.mp hk
  match k, hk with
  | 0, _ => exact w_153
  | 1, _ => exact w_155
  | 2, _ => exact w_157
  | 3, _ => exact w_159
  | 4, _ => exact w_161
  | 5, _ => exact w_163
  | 6, _ => exact w_165
  | 7, _ => exact w_167
  | 8, _ => exact w_169
  | k + 9, hk => exact absurd hk (by omega)
theorem in_M : ∀ w ∈ u_ws R_M F_M 21, w ∈ lwg := by
  intro w h
  obtain ⟨k, hk, rfl⟩ := List.mem_map.mp h
  have hk := List.mem_range.mp hk
  match k, hk with
  | 0, _ => exact w_507
  | 1, _ => exact w_509
  | 2, _ => exact w_511
  | 3, _ => exact w_513
  | 4, _ => exact w_515
  | 5, _ => exact w_517
  | 6, _ => exact w_519
  | 7, _ => exact w_521
  | 8, _ => exact w_523
  | 9, _ => exact w_525
  | 10, _ => exact w_527
  | 11, _ => exact w_529
  | 12, _ => exact w_531
  | 13, _ => exact w_533
  | 14, _ => exact w_535
  | 15, _ => exact w_537
  | 16, _ => exact w_539
  | 17, _ => exact w_541
  | 18, _ => exact w_543
  | 19, _ => exact w_545
  | 20, _ => exact w_547
  | k + 21, hk => exact absurd hk (by omega)
