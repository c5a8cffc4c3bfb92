section
-- ===== PART A: goes FIRST, ahead of the names: the tables' words, and 'selects' of the private methods out of them =====
/-- a private method of a class that the tables say can be made, by its rows of tables_1 -/
def lw_okq (q : MethodName × Nat) : Prop := (q.1.cls ≠ "java/lang/invoke/MethodHandle" ∧ q.1.cls ≠ "java/lang/invoke/VarHandle") ∧ Cond.instantiable q.1.cls q.2 ∈ tables_1 ∧ Cond.privateMethod q.1 ∈ tables_1 ∧ Cond.instanceMethod q.1 ∈ tables_1
theorem lw_p0 : lw_okq (⟨"WaveRows", "rowLength", "(I)I"⟩, 12) := ⟨⟨by decide +kernel, by decide +kernel⟩, List.mem_of_getElem? (i := 13) (by decide +kernel), List.mem_of_getElem? (i := 80) (by decide +kernel), List.mem_of_getElem? (i := 81) (by decide +kernel)⟩
theorem lw_p1 : lw_okq (⟨"java/lang/Throwable", "fillInStackTrace", "(I)Ljava/lang/Throwable;"⟩, 6) := ⟨⟨by decide +kernel, by decide +kernel⟩, List.mem_of_getElem? (i := 142) (by decide +kernel), List.mem_of_getElem? (i := 140) (by decide +kernel), List.mem_of_getElem? (i := 141) (by decide +kernel)⟩
theorem lw_p2 : lw_okq (⟨"WaveRows", "requireDriver", "(I)V"⟩, 12) := ⟨⟨by decide +kernel, by decide +kernel⟩, List.mem_of_getElem? (i := 13) (by decide +kernel), List.mem_of_getElem? (i := 196) (by decide +kernel), List.mem_of_getElem? (i := 197) (by decide +kernel)⟩
theorem lw_p3 : lw_okq (⟨"WaveRows", "isLimitGood", "(IJ)Z"⟩, 12) := ⟨⟨by decide +kernel, by decide +kernel⟩, List.mem_of_getElem? (i := 13) (by decide +kernel), List.mem_of_getElem? (i := 217) (by decide +kernel), List.mem_of_getElem? (i := 218) (by decide +kernel)⟩
theorem lw_p4 : lw_okq (⟨"WaveRows", "areDelaysGood", "()Z"⟩, 12) := ⟨⟨by decide +kernel, by decide +kernel⟩, List.mem_of_getElem? (i := 13) (by decide +kernel), List.mem_of_getElem? (i := 221) (by decide +kernel), List.mem_of_getElem? (i := 222) (by decide +kernel)⟩
theorem lw_p5 : lw_okq (⟨"WaveRows", "firstBehind", "(IIJ)I"⟩, 12) := ⟨⟨by decide +kernel, by decide +kernel⟩, List.mem_of_getElem? (i := 13) (by decide +kernel), List.mem_of_getElem? (i := 226) (by decide +kernel), List.mem_of_getElem? (i := 227) (by decide +kernel)⟩
theorem lw_p6 : lw_okq (⟨"WaveRows", "limitOf", "(IJ)J"⟩, 12) := ⟨⟨by decide +kernel, by decide +kernel⟩, List.mem_of_getElem? (i := 13) (by decide +kernel), List.mem_of_getElem? (i := 230) (by decide +kernel), List.mem_of_getElem? (i := 231) (by decide +kernel)⟩
theorem lw_p7 : lw_okq (⟨"WaveRows", "startOfSameValues", "(IIJ)I"⟩, 12) := ⟨⟨by decide +kernel, by decide +kernel⟩, List.mem_of_getElem? (i := 13) (by decide +kernel), List.mem_of_getElem? (i := 234) (by decide +kernel), List.mem_of_getElem? (i := 235) (by decide +kernel)⟩
theorem lw_p8 : lw_okq (⟨"WaveRows", "moveTransactions", "(III)V"⟩, 12) := ⟨⟨by decide +kernel, by decide +kernel⟩, List.mem_of_getElem? (i := 13) (by decide +kernel), List.mem_of_getElem? (i := 239) (by decide +kernel), List.mem_of_getElem? (i := 240) (by decide +kernel)⟩
theorem lw_p9 : lw_okq (⟨"WaveRows", "endRowAt", "(II)V"⟩, 12) := ⟨⟨by decide +kernel, by decide +kernel⟩, List.mem_of_getElem? (i := 13) (by decide +kernel), List.mem_of_getElem? (i := 246) (by decide +kernel), List.mem_of_getElem? (i := 247) (by decide +kernel)⟩
theorem lw_p10 : lw_okq (⟨"WaveRows", "makePlaces", "(I)V"⟩, 12) := ⟨⟨by decide +kernel, by decide +kernel⟩, List.mem_of_getElem? (i := 13) (by decide +kernel), List.mem_of_getElem? (i := 250) (by decide +kernel), List.mem_of_getElem? (i := 251) (by decide +kernel)⟩
theorem lw_p11 : lw_okq (⟨"WaveRows", "writeElements", "(I)V"⟩, 12) := ⟨⟨by decide +kernel, by decide +kernel⟩, List.mem_of_getElem? (i := 13) (by decide +kernel), List.mem_of_getElem? (i := 269) (by decide +kernel), List.mem_of_getElem? (i := 270) (by decide +kernel)⟩
theorem lw_p12 : lw_okq (⟨"WaveRowsModel", "none", "(I)Z"⟩, 16) := ⟨⟨by decide +kernel, by decide +kernel⟩, List.mem_of_getElem? (i := 318) (by decide +kernel), List.mem_of_getElem? (i := 391) (by decide +kernel), List.mem_of_getElem? (i := 392) (by decide +kernel)⟩
theorem lw_p13 : lw_okq (⟨"WaveRowsModel", "rises", "()Z"⟩, 16) := ⟨⟨by decide +kernel, by decide +kernel⟩, List.mem_of_getElem? (i := 318) (by decide +kernel), List.mem_of_getElem? (i := 395) (by decide +kernel), List.mem_of_getElem? (i := 396) (by decide +kernel)⟩
theorem lw_p14 : lw_okq (⟨"WaveRowsModel", "replace", "(II)V"⟩, 16) := ⟨⟨by decide +kernel, by decide +kernel⟩, List.mem_of_getElem? (i := 318) (by decide +kernel), List.mem_of_getElem? (i := 399) (by decide +kernel), List.mem_of_getElem? (i := 400) (by decide +kernel)⟩
theorem lw_p15 : lw_okq (⟨"WaveRowsModel", "find", "(II)I"⟩, 16) := ⟨⟨by decide +kernel, by decide +kernel⟩, List.mem_of_getElem? (i := 318) (by decide +kernel), List.mem_of_getElem? (i := 436) (by decide +kernel), List.mem_of_getElem? (i := 437) (by decide +kernel)⟩
def lw_privs_1 : List (MethodName × Nat) := [(⟨"WaveRows", "rowLength", "(I)I"⟩, 12), (⟨"java/lang/Throwable", "fillInStackTrace", "(I)Ljava/lang/Throwable;"⟩, 6), (⟨"WaveRows", "requireDriver", "(I)V"⟩, 12), (⟨"WaveRows", "isLimitGood", "(IJ)Z"⟩, 12), (⟨"WaveRows", "areDelaysGood", "()Z"⟩, 12), (⟨"WaveRows", "firstBehind", "(IIJ)I"⟩, 12), (⟨"WaveRows", "limitOf", "(IJ)J"⟩, 12), (⟨"WaveRows", "startOfSameValues", "(IIJ)I"⟩, 12), (⟨"WaveRows", "moveTransactions", "(III)V"⟩, 12), (⟨"WaveRows", "endRowAt", "(II)V"⟩, 12), (⟨"WaveRows", "makePlaces", "(I)V"⟩, 12), (⟨"WaveRows", "writeElements", "(I)V"⟩, 12), (⟨"WaveRowsModel", "none", "(I)Z"⟩, 16), (⟨"WaveRowsModel", "rises", "()Z"⟩, 16), (⟨"WaveRowsModel", "replace", "(II)V"⟩, 16), (⟨"WaveRowsModel", "find", "(II)I"⟩, 16)]
theorem lw_r1 : ∀ q ∈ lw_privs_1, lw_okq q := List.forall_mem_cons.mpr ⟨lw_p0, List.forall_mem_cons.mpr ⟨lw_p1, List.forall_mem_cons.mpr ⟨lw_p2, List.forall_mem_cons.mpr ⟨lw_p3, List.forall_mem_cons.mpr ⟨lw_p4, List.forall_mem_cons.mpr ⟨lw_p5, List.forall_mem_cons.mpr ⟨lw_p6, List.forall_mem_cons.mpr ⟨lw_p7, List.forall_mem_cons.mpr ⟨lw_p8, List.forall_mem_cons.mpr ⟨lw_p9, List.forall_mem_cons.mpr ⟨lw_p10, List.forall_mem_cons.mpr ⟨lw_p11, List.forall_mem_cons.mpr ⟨lw_p12, List.forall_mem_cons.mpr ⟨lw_p13, List.forall_mem_cons.mpr ⟨lw_p14, List.forall_mem_cons.mpr ⟨lw_p15, fun _ h => absurd h List.not_mem_nil⟩⟩⟩⟩⟩⟩⟩⟩⟩⟩⟩⟩⟩⟩⟩⟩
def lw_privs : List (MethodName × Nat) := lw_privs_1
def lw_tbl : List Cond := k2_sels lw_privs ++ tables_1
theorem lw_privs_ok : ∀ q ∈ lw_privs, lw_okq q := lw_r1
/-- all words of the tables that stay: each method's words are its own code and these -/
def allw : List Cond := lw_tbl.filter goodWord
theorem allw_of {w : Cond} (i : Nat) (h : lw_tbl[i]? = some w) (hg : goodWord w = true) : w ∈ allw := List.mem_filter.mpr ⟨List.mem_of_getElem? h, hg⟩
theorem allw_good : ∀ w ∈ allw, (w.onTables && w.keeps) = true ∨ ∃ ty, w = .arrayClass ty := fun _ h => good_of_word (List.mem_filter.mp h).2
theorem gAll {y : MethodName} {bs : ByteArray} {n : Nat} {rt : Option FieldType} (h : Cond.code y bs n rt ∈ allw) : GoodIn allw (Cond.code y bs n rt :: allw) := fun w hw => (List.mem_cons.mp hw).elim (fun e => e ▸ ⟨h, allw_good _ h⟩) (fun e => ⟨e, allw_good w e⟩)
theorem gV {own C : String} {idx : Nat} {y : MethodName} {bs : ByteArray} {n : Nat} {rt : Option FieldType} (h1 : Cond.methodLink own idx y ∈ allw) (h2 : Cond.instanceMethod y ∈ allw) (h3 : Cond.selects C y y ∈ allw) (h4 : Cond.initialized C ∈ allw) (h5 : Cond.code y bs n rt ∈ allw) : GoodIn allw (wsV own idx C y (Cond.code y bs n rt :: allw)) := by
  intro w hw
  rcases List.mem_append.mp hw with h | h
  · simp only [List.mem_cons, List.not_mem_nil, or_false] at h
    rcases h with rfl | rfl | rfl | rfl
    · exact ⟨h1, allw_good _ h1⟩
    · exact ⟨h2, allw_good _ h2⟩
    · exact ⟨h3, allw_good _ h3⟩
    · exact ⟨h4, allw_good _ h4⟩
  · exact gAll h5 w h
theorem gS {own : String} {idx : Nat} {y : MethodName} {bs : ByteArray} {n : Nat} {rt : Option FieldType} (h1 : Cond.methodLink own idx y ∈ allw) (h2 : Cond.static y ∈ allw) (h3 : Cond.initialized y.cls ∈ allw) (h5 : Cond.code y bs n rt ∈ allw) : GoodIn allw (va_wsS own idx y (Cond.code y bs n rt :: allw)) := by
  intro w hw
  rcases List.mem_append.mp hw with h | h
  · simp only [List.mem_cons, List.not_mem_nil, or_false] at h
    rcases h with rfl | rfl | rfl
    · exact ⟨h1, allw_good _ h1⟩
    · exact ⟨h2, allw_good _ h2⟩
    · exact ⟨h3, allw_good _ h3⟩
  · exact gAll h5 w h
def RX0 : String := "WaveRows"
def TX0 : u_T := fun k => match k with
  | 0 => ("WaveRows", "drivers", "I", true)
  | 1 => ("WaveRows", "room", "I", true)
  | 2 => ("WaveRows", "driverValues", "[J", true)
  | 3 => ("WaveRows", "rowStarts", "[I", true)
  | 4 => ("WaveRows", "times", "[J", false)
  | 5 => ("WaveRows", "values", "[J", false)
  | 6 => ("WaveRows", "elementValues", "[J", true)
  | 7 => ("WaveRows", "elementDelays", "[J", true)
  | 8 => ("WaveRows", "elementCount", "I", false)
  | 9 => ("WaveRows", "activeDrivers", "[I", true)
  | 10 => ("WaveRows", "activeCount", "I", false)
  | _ => ("WaveRows", "timeNow", "J", false)
def tyX0 : Nat → FieldType := fun k => match k with
  | 0 => .int
  | 1 => .int
  | 2 => .array .long
  | 3 => .array .int
  | 4 => .array .long
  | 5 => .array .long
  | 6 => .array .long
  | 7 => .array .long
  | 8 => .int
  | 9 => .array .int
  | 10 => .int
  | _ => .long
theorem nmX0 : ∀ a, a < 12 → ∀ b, b < 12 → a ≠ b → (TX0 a).2.1 ≠ (TX0 b).2.1 := by decide +kernel
theorem tyX0_ok : ∀ k, k < 12 → parseFieldDescriptor (TX0 k).2.2.1 = some (tyX0 k) := by decide +kernel
set_option maxRecDepth 20000 in
theorem inX0_0 : ∀ w ∈ u_ws RX0 TX0 12, w ∈ lw_tbl := by decide +kernel
theorem inX0_g : ∀ w ∈ u_ws RX0 TX0 12, goodWord w = true := by decide +kernel
theorem inX0 : ∀ w ∈ u_ws RX0 TX0 12, w ∈ allw := fun w h => List.mem_filter.mpr ⟨inX0_0 w h, inX0_g w h⟩
def RX1 : String := "WaveRowsModel"
def TX1 : u_T := fun k => match k with
  | 0 => ("WaveRowsModel", "thrown", "I", false)
  | 1 => ("WaveRowsModel", "drivers", "I", true)
  | 2 => ("WaveRowsModel", "room", "I", true)
  | 3 => ("WaveRowsModel", "values", "[J", true)
  | 4 => ("WaveRowsModel", "active", "[Z", true)
  | 5 => ("WaveRowsModel", "now", "J", false)
  | 6 => ("WaveRowsModel", "owners", "[I", true)
  | 7 => ("WaveRowsModel", "times", "[J", true)
  | 8 => ("WaveRowsModel", "what", "[J", true)
  | 9 => ("WaveRowsModel", "size", "I", false)
  | 10 => ("WaveRowsModel", "newValues", "[J", true)
  | 11 => ("WaveRowsModel", "delays", "[J", true)
  | 12 => ("WaveRowsModel", "elements", "I", false)
  | 13 => ("WaveRowsModel", "rowTimes", "[J", true)
  | 14 => ("WaveRowsModel", "rowValues", "[J", true)
  | _ => ("WaveRowsModel", "marked", "[Z", true)
def tyX1 : Nat → FieldType := fun k => match k with
  | 0 => .int
  | 1 => .int
  | 2 => .int
  | 3 => .array .long
  | 4 => .array .boolean
  | 5 => .long
  | 6 => .array .int
  | 7 => .array .long
  | 8 => .array .long
  | 9 => .int
  | 10 => .array .long
  | 11 => .array .long
  | 12 => .int
  | 13 => .array .long
  | 14 => .array .long
  | _ => .array .boolean
theorem nmX1 : ∀ a, a < 16 → ∀ b, b < 16 → a ≠ b → (TX1 a).2.1 ≠ (TX1 b).2.1 := by decide +kernel
theorem tyX1_ok : ∀ k, k < 16 → parseFieldDescriptor (TX1 k).2.2.1 = some (tyX1 k) := by decide +kernel
set_option maxRecDepth 20000 in
theorem inX1_0 : ∀ w ∈ u_ws RX1 TX1 16, w ∈ lw_tbl := by decide +kernel
theorem inX1_g : ∀ w ∈ u_ws RX1 TX1 16, goodWord w = true := by decide +kernel
theorem inX1 : ∀ w ∈ u_ws RX1 TX1 16, w ∈ allw := fun w h => List.mem_filter.mpr ⟨inX1_0 w h, inX1_g w h⟩
def RL : String := "WaveRowsLaw"
def RJ7 : String := "java/util/Arrays"
abbrev vwCl : List vw_C := [(RX0, TX0, 12), (RX1, TX1, 16)]
theorem kp_0 : Cond.selects "WaveRows" ⟨"WaveRows", "rowLength", "(I)I"⟩ ⟨"WaveRows", "rowLength", "(I)I"⟩ ∈ allw := allw_of 0 (by decide +kernel) (by decide +kernel)
theorem kp_1 : Cond.selects "java/lang/Throwable" ⟨"java/lang/Throwable", "fillInStackTrace", "(I)Ljava/lang/Throwable;"⟩ ⟨"java/lang/Throwable", "fillInStackTrace", "(I)Ljava/lang/Throwable;"⟩ ∈ allw := allw_of 1 (by decide +kernel) (by decide +kernel)
theorem kp_2 : Cond.selects "WaveRows" ⟨"WaveRows", "requireDriver", "(I)V"⟩ ⟨"WaveRows", "requireDriver", "(I)V"⟩ ∈ allw := allw_of 2 (by decide +kernel) (by decide +kernel)
theorem kp_3 : Cond.selects "WaveRows" ⟨"WaveRows", "isLimitGood", "(IJ)Z"⟩ ⟨"WaveRows", "isLimitGood", "(IJ)Z"⟩ ∈ allw := allw_of 3 (by decide +kernel) (by decide +kernel)
theorem kp_4 : Cond.selects "WaveRows" ⟨"WaveRows", "areDelaysGood", "()Z"⟩ ⟨"WaveRows", "areDelaysGood", "()Z"⟩ ∈ allw := allw_of 4 (by decide +kernel) (by decide +kernel)
theorem kp_5 : Cond.selects "WaveRows" ⟨"WaveRows", "firstBehind", "(IIJ)I"⟩ ⟨"WaveRows", "firstBehind", "(IIJ)I"⟩ ∈ allw := allw_of 5 (by decide +kernel) (by decide +kernel)
theorem kp_6 : Cond.selects "WaveRows" ⟨"WaveRows", "limitOf", "(IJ)J"⟩ ⟨"WaveRows", "limitOf", "(IJ)J"⟩ ∈ allw := allw_of 6 (by decide +kernel) (by decide +kernel)
theorem kp_7 : Cond.selects "WaveRows" ⟨"WaveRows", "startOfSameValues", "(IIJ)I"⟩ ⟨"WaveRows", "startOfSameValues", "(IIJ)I"⟩ ∈ allw := allw_of 7 (by decide +kernel) (by decide +kernel)
theorem kp_8 : Cond.selects "WaveRows" ⟨"WaveRows", "moveTransactions", "(III)V"⟩ ⟨"WaveRows", "moveTransactions", "(III)V"⟩ ∈ allw := allw_of 8 (by decide +kernel) (by decide +kernel)
theorem kp_9 : Cond.selects "WaveRows" ⟨"WaveRows", "endRowAt", "(II)V"⟩ ⟨"WaveRows", "endRowAt", "(II)V"⟩ ∈ allw := allw_of 9 (by decide +kernel) (by decide +kernel)
theorem kp_10 : Cond.selects "WaveRows" ⟨"WaveRows", "makePlaces", "(I)V"⟩ ⟨"WaveRows", "makePlaces", "(I)V"⟩ ∈ allw := allw_of 10 (by decide +kernel) (by decide +kernel)
theorem kp_11 : Cond.selects "WaveRows" ⟨"WaveRows", "writeElements", "(I)V"⟩ ⟨"WaveRows", "writeElements", "(I)V"⟩ ∈ allw := allw_of 11 (by decide +kernel) (by decide +kernel)
theorem kp_12 : Cond.selects "WaveRowsModel" ⟨"WaveRowsModel", "none", "(I)Z"⟩ ⟨"WaveRowsModel", "none", "(I)Z"⟩ ∈ allw := allw_of 12 (by decide +kernel) (by decide +kernel)
theorem kp_13 : Cond.selects "WaveRowsModel" ⟨"WaveRowsModel", "rises", "()Z"⟩ ⟨"WaveRowsModel", "rises", "()Z"⟩ ∈ allw := allw_of 13 (by decide +kernel) (by decide +kernel)
theorem kp_14 : Cond.selects "WaveRowsModel" ⟨"WaveRowsModel", "replace", "(II)V"⟩ ⟨"WaveRowsModel", "replace", "(II)V"⟩ ∈ allw := allw_of 14 (by decide +kernel) (by decide +kernel)
theorem kp_15 : Cond.selects "WaveRowsModel" ⟨"WaveRowsModel", "find", "(II)I"⟩ ⟨"WaveRowsModel", "find", "(II)I"⟩ ∈ allw := allw_of 15 (by decide +kernel) (by decide +kernel)
theorem kw_0 : Cond.initialized "WaveRowsLaw" ∈ allw := allw_of 16 (by decide +kernel) (by decide +kernel)
theorem kw_1 : Cond.initialized "WaveRows" ∈ allw := allw_of 17 (by decide +kernel) (by decide +kernel)
theorem kw_2 : Cond.initialized "java/lang/Math" ∈ allw := allw_of 18 (by decide +kernel) (by decide +kernel)
theorem kw_3 : Cond.initialized "WaveRowsModel" ∈ allw := allw_of 19 (by decide +kernel) (by decide +kernel)
theorem kw_4 : Cond.initialized "java/lang/Throwable" ∈ allw := allw_of 20 (by decide +kernel) (by decide +kernel)
theorem kw_5 : Cond.initialized "java/lang/Exception" ∈ allw := allw_of 21 (by decide +kernel) (by decide +kernel)
theorem kw_6 : Cond.initialized "java/lang/RuntimeException" ∈ allw := allw_of 22 (by decide +kernel) (by decide +kernel)
theorem kw_7 : Cond.initialized "java/lang/IllegalArgumentException" ∈ allw := allw_of 23 (by decide +kernel) (by decide +kernel)
theorem kw_8 : Cond.initialized "java/lang/IllegalStateException" ∈ allw := allw_of 24 (by decide +kernel) (by decide +kernel)
theorem kw_9 : Cond.initialized "java/lang/IndexOutOfBoundsException" ∈ allw := allw_of 25 (by decide +kernel) (by decide +kernel)
theorem kw_10 : Cond.initialized "java/lang/System" ∈ allw := allw_of 26 (by decide +kernel) (by decide +kernel)
theorem kw_11 : Cond.initialized "java/util/Arrays" ∈ allw := allw_of 27 (by decide +kernel) (by decide +kernel)
theorem kw_12 : Cond.classLink "WaveRowsLaw" 8 "WaveRows" ∈ allw := allw_of 28 (by decide +kernel) (by decide +kernel)
theorem kw_13 : Cond.instantiable "WaveRows" 12 ∈ allw := allw_of 29 (by decide +kernel) (by decide +kernel)
theorem kw_14 : Cond.methodLink "WaveRowsLaw" 53 ⟨"WaveRows", "<init>", "(II)V"⟩ ∈ allw := allw_of 30 (by decide +kernel) (by decide +kernel)
theorem kw_15 : Cond.instanceMethod ⟨"WaveRows", "<init>", "(II)V"⟩ ∈ allw := allw_of 31 (by decide +kernel) (by decide +kernel)
theorem kw_16 : Cond.code ⟨"WaveRows", "<init>", "(II)V"⟩ prog_1_method_1_code 4 none ∈ allw := allw_of 32 (by decide +kernel) (by decide +kernel)
theorem kw_17 : Cond.methodLink "WaveRows" 1 ⟨"java/lang/Object", "<init>", "()V"⟩ ∈ allw := allw_of 33 (by decide +kernel) (by decide +kernel)
theorem kw_18 : Cond.instanceMethod ⟨"java/lang/Object", "<init>", "()V"⟩ ∈ allw := allw_of 34 (by decide +kernel) (by decide +kernel)
theorem kw_19 : Cond.code ⟨"java/lang/Object", "<init>", "()V"⟩ object_method_1_code 1 none ∈ allw := allw_of 35 (by decide +kernel) (by decide +kernel)
theorem kw_20 : Cond.methodLink "WaveRows" 27 ⟨"java/lang/Math", "min", "(II)I"⟩ ∈ allw := allw_of 36 (by decide +kernel) (by decide +kernel)
theorem kw_21 : Cond.static ⟨"java/lang/Math", "min", "(II)I"⟩ ∈ allw := allw_of 37 (by decide +kernel) (by decide +kernel)
theorem kw_22 : Cond.code ⟨"java/lang/Math", "min", "(II)I"⟩ prog_9_method_69_code 2 (some .int) ∈ allw := allw_of 38 (by decide +kernel) (by decide +kernel)
theorem kw_23 : Cond.fieldLink "WaveRows" 9 "WaveRows" "drivers" "I" ∈ allw := allw_of 39 (by decide +kernel) (by decide +kernel)
theorem kw_24 : Cond.fieldLink "WaveRows" 13 "WaveRows" "room" "I" ∈ allw := allw_of 40 (by decide +kernel) (by decide +kernel)
theorem kw_25 : Cond.fieldLink "WaveRows" 16 "WaveRows" "driverValues" "[J" ∈ allw := allw_of 41 (by decide +kernel) (by decide +kernel)
theorem kw_26 : Cond.fieldLink "WaveRows" 20 "WaveRows" "rowStarts" "[I" ∈ allw := allw_of 42 (by decide +kernel) (by decide +kernel)
theorem kw_27 : Cond.fieldLink "WaveRows" 33 "WaveRows" "times" "[J" ∈ allw := allw_of 43 (by decide +kernel) (by decide +kernel)
theorem kw_28 : Cond.fieldLink "WaveRows" 36 "WaveRows" "values" "[J" ∈ allw := allw_of 44 (by decide +kernel) (by decide +kernel)
theorem kw_29 : Cond.fieldLink "WaveRows" 39 "WaveRows" "elementValues" "[J" ∈ allw := allw_of 45 (by decide +kernel) (by decide +kernel)
theorem kw_30 : Cond.fieldLink "WaveRows" 42 "WaveRows" "elementDelays" "[J" ∈ allw := allw_of 46 (by decide +kernel) (by decide +kernel)
theorem kw_31 : Cond.fieldLink "WaveRows" 54 "WaveRows" "elementCount" "I" ∈ allw := allw_of 47 (by decide +kernel) (by decide +kernel)
theorem kw_32 : Cond.fieldLink "WaveRows" 24 "WaveRows" "activeDrivers" "[I" ∈ allw := allw_of 48 (by decide +kernel) (by decide +kernel)
theorem kw_33 : Cond.fieldLink "WaveRows" 112 "WaveRows" "activeCount" "I" ∈ allw := allw_of 49 (by decide +kernel) (by decide +kernel)
theorem kw_34 : Cond.fieldLink "WaveRows" 78 "WaveRows" "timeNow" "J" ∈ allw := allw_of 50 (by decide +kernel) (by decide +kernel)
theorem kw_60 : Cond.arrayClass .long ∈ allw := allw_of 76 (by decide +kernel) (by decide +kernel)
theorem kw_61 : Cond.arrayClass .int ∈ allw := allw_of 77 (by decide +kernel) (by decide +kernel)
theorem kw_62 : Cond.methodLink "WaveRowsLaw" 69 ⟨"WaveRows", "drop", "()I"⟩ ∈ allw := allw_of 78 (by decide +kernel) (by decide +kernel)
theorem kw_63 : Cond.instanceMethod ⟨"WaveRows", "drop", "()I"⟩ ∈ allw := allw_of 79 (by decide +kernel) (by decide +kernel)
theorem kw_64 : Cond.selects "WaveRows" ⟨"WaveRows", "drop", "()I"⟩ ⟨"WaveRows", "drop", "()I"⟩ ∈ allw := allw_of 80 (by decide +kernel) (by decide +kernel)
theorem kw_65 : Cond.code ⟨"WaveRows", "drop", "()I"⟩ prog_1_method_3_code 2 (some .int) ∈ allw := allw_of 81 (by decide +kernel) (by decide +kernel)
theorem kw_66 : Cond.methodLink "WaveRowsLaw" 85 ⟨"WaveRows", "active", "(I)I"⟩ ∈ allw := allw_of 82 (by decide +kernel) (by decide +kernel)
theorem kw_67 : Cond.instanceMethod ⟨"WaveRows", "active", "(I)I"⟩ ∈ allw := allw_of 83 (by decide +kernel) (by decide +kernel)
theorem kw_68 : Cond.selects "WaveRows" ⟨"WaveRows", "active", "(I)I"⟩ ⟨"WaveRows", "active", "(I)I"⟩ ∈ allw := allw_of 84 (by decide +kernel) (by decide +kernel)
theorem kw_69 : Cond.code ⟨"WaveRows", "active", "(I)I"⟩ prog_1_method_7_code 2 (some .int) ∈ allw := allw_of 85 (by decide +kernel) (by decide +kernel)
theorem kw_70 : Cond.methodLink "WaveRowsLaw" 89 ⟨"WaveRows", "now", "()J"⟩ ∈ allw := allw_of 86 (by decide +kernel) (by decide +kernel)
theorem kw_71 : Cond.instanceMethod ⟨"WaveRows", "now", "()J"⟩ ∈ allw := allw_of 87 (by decide +kernel) (by decide +kernel)
theorem kw_72 : Cond.selects "WaveRows" ⟨"WaveRows", "now", "()J"⟩ ⟨"WaveRows", "now", "()J"⟩ ∈ allw := allw_of 88 (by decide +kernel) (by decide +kernel)
theorem kw_73 : Cond.code ⟨"WaveRows", "now", "()J"⟩ prog_1_method_8_code 1 (some .long) ∈ allw := allw_of 89 (by decide +kernel) (by decide +kernel)
theorem kw_74 : Cond.methodLink "WaveRowsLaw" 94 ⟨"WaveRows", "next", "()J"⟩ ∈ allw := allw_of 90 (by decide +kernel) (by decide +kernel)
theorem kw_75 : Cond.instanceMethod ⟨"WaveRows", "next", "()J"⟩ ∈ allw := allw_of 91 (by decide +kernel) (by decide +kernel)
theorem kw_76 : Cond.selects "WaveRows" ⟨"WaveRows", "next", "()J"⟩ ⟨"WaveRows", "next", "()J"⟩ ∈ allw := allw_of 92 (by decide +kernel) (by decide +kernel)
theorem kw_77 : Cond.code ⟨"WaveRows", "next", "()J"⟩ prog_1_method_9_code 6 (some .long) ∈ allw := allw_of 93 (by decide +kernel) (by decide +kernel)
theorem kw_78 : Cond.constantLong "WaveRows" 115 (-1) ∈ allw := allw_of 94 (by decide +kernel) (by decide +kernel)
theorem kw_79 : Cond.methodLink "WaveRows" 106 ⟨"WaveRows", "rowLength", "(I)I"⟩ ∈ allw := allw_of 95 (by decide +kernel) (by decide +kernel)
theorem kw_81 : Cond.instanceMethod ⟨"WaveRows", "rowLength", "(I)I"⟩ ∈ allw := allw_of 97 (by decide +kernel) (by decide +kernel)
theorem kw_82 : Cond.code ⟨"WaveRows", "rowLength", "(I)I"⟩ prog_1_method_19_code 2 (some .int) ∈ allw := allw_of 98 (by decide +kernel) (by decide +kernel)
theorem kw_83 : Cond.methodLink "WaveRows" 117 ⟨"java/lang/Math", "min", "(JJ)J"⟩ ∈ allw := allw_of 99 (by decide +kernel) (by decide +kernel)
theorem kw_84 : Cond.static ⟨"java/lang/Math", "min", "(JJ)J"⟩ ∈ allw := allw_of 100 (by decide +kernel) (by decide +kernel)
theorem kw_85 : Cond.code ⟨"java/lang/Math", "min", "(JJ)J"⟩ prog_9_method_70_code 4 (some .long) ∈ allw := allw_of 101 (by decide +kernel) (by decide +kernel)
theorem kw_86 : Cond.methodLink "WaveRowsLaw" 112 ⟨"WaveRows", "total", "()I"⟩ ∈ allw := allw_of 102 (by decide +kernel) (by decide +kernel)
theorem kw_87 : Cond.instanceMethod ⟨"WaveRows", "total", "()I"⟩ ∈ allw := allw_of 103 (by decide +kernel) (by decide +kernel)
theorem kw_88 : Cond.selects "WaveRows" ⟨"WaveRows", "total", "()I"⟩ ⟨"WaveRows", "total", "()I"⟩ ∈ allw := allw_of 104 (by decide +kernel) (by decide +kernel)
theorem kw_89 : Cond.code ⟨"WaveRows", "total", "()I"⟩ prog_1_method_14_code 1 (some .int) ∈ allw := allw_of 105 (by decide +kernel) (by decide +kernel)
theorem kw_90 : Cond.methodLink "WaveRowsLaw" 47 ⟨"WaveRowsLaw", "cell", "([II)I"⟩ ∈ allw := allw_of 106 (by decide +kernel) (by decide +kernel)
theorem kw_91 : Cond.static ⟨"WaveRowsLaw", "cell", "([II)I"⟩ ∈ allw := allw_of 107 (by decide +kernel) (by decide +kernel)
theorem kw_92 : Cond.code ⟨"WaveRowsLaw", "cell", "([II)I"⟩ method_2_code 2 (some .int) ∈ allw := allw_of 108 (by decide +kernel) (by decide +kernel)
theorem kw_93 : Cond.methodLink "WaveRowsLaw" 61 ⟨"WaveRowsLaw", "element", "(LWaveRows;JJ)I"⟩ ∈ allw := allw_of 109 (by decide +kernel) (by decide +kernel)
theorem kw_94 : Cond.static ⟨"WaveRowsLaw", "element", "(LWaveRows;JJ)I"⟩ ∈ allw := allw_of 110 (by decide +kernel) (by decide +kernel)
theorem kw_95 : Cond.codeWith ⟨"WaveRowsLaw", "element", "(LWaveRows;JJ)I"⟩ method_3_code 6 (some .int) [(0, 6, 9, 13), (0, 6, 13, 15)] ∈ allw := allw_of 111 (by decide +kernel) (by decide +kernel)
theorem kw_96 : Cond.classLink "WaveRowsLaw" 13 "java/lang/IllegalArgumentException" ∈ allw := allw_of 112 (by decide +kernel) (by decide +kernel)
theorem kw_97 : Cond.classLink "WaveRowsLaw" 15 "java/lang/IllegalStateException" ∈ allw := allw_of 113 (by decide +kernel) (by decide +kernel)
theorem kw_98 : Cond.methodLink "WaveRowsLaw" 7 ⟨"WaveRows", "element", "(JJ)V"⟩ ∈ allw := allw_of 114 (by decide +kernel) (by decide +kernel)
theorem kw_99 : Cond.instanceMethod ⟨"WaveRows", "element", "(JJ)V"⟩ ∈ allw := allw_of 115 (by decide +kernel) (by decide +kernel)
theorem kw_100 : Cond.selects "WaveRows" ⟨"WaveRows", "element", "(JJ)V"⟩ ⟨"WaveRows", "element", "(JJ)V"⟩ ∈ allw := allw_of 116 (by decide +kernel) (by decide +kernel)
theorem kw_101 : Cond.code ⟨"WaveRows", "element", "(JJ)V"⟩ prog_1_method_2_code 5 none ∈ allw := allw_of 117 (by decide +kernel) (by decide +kernel)
theorem kw_102 : Cond.constantLong "WaveRows" 45 1152921504606846976 ∈ allw := allw_of 118 (by decide +kernel) (by decide +kernel)
theorem kw_103 : Cond.classLink "WaveRows" 47 "java/lang/IllegalArgumentException" ∈ allw := allw_of 119 (by decide +kernel) (by decide +kernel)
theorem kw_104 : Cond.instantiable "java/lang/IllegalArgumentException" 6 ∈ allw := allw_of 120 (by decide +kernel) (by decide +kernel)
theorem kw_112 : Cond.selects "java/lang/IllegalArgumentException" ⟨"java/lang/Throwable", "fillInStackTrace", "(I)Ljava/lang/Throwable;"⟩ ⟨"java/lang/Throwable", "fillInStackTrace", "(I)Ljava/lang/Throwable;"⟩ ∈ allw := allw_of 128 (by decide +kernel) (by decide +kernel)
theorem kw_113 : Cond.selects "java/lang/IllegalArgumentException" ⟨"java/lang/Throwable", "fillInStackTrace", "()Ljava/lang/Throwable;"⟩ ⟨"java/lang/Throwable", "fillInStackTrace", "()Ljava/lang/Throwable;"⟩ ∈ allw := allw_of 129 (by decide +kernel) (by decide +kernel)
theorem kw_124 : Cond.fieldLink "java/lang/Throwable" 198 "java/lang/Throwable" "backtrace" "Ljava/lang/Object;" ∈ allw := allw_of 140 (by decide +kernel) (by decide +kernel)
theorem kw_126 : Cond.instanceMethod ⟨"java/lang/Throwable", "<init>", "()V"⟩ ∈ allw := allw_of 142 (by decide +kernel) (by decide +kernel)
theorem kw_127 : Cond.code ⟨"java/lang/Throwable", "<init>", "()V"⟩ prog_13_method_1_code 1 none ∈ allw := allw_of 143 (by decide +kernel) (by decide +kernel)
theorem kw_128 : Cond.methodLink "java/lang/Throwable" 1 ⟨"java/lang/Object", "<init>", "()V"⟩ ∈ allw := allw_of 144 (by decide +kernel) (by decide +kernel)
theorem kw_129 : Cond.fieldLink "java/lang/Throwable" 13 "java/lang/Throwable" "UNASSIGNED_STACK" "[Ljava/lang/StackTraceElement;" ∈ allw := allw_of 145 (by decide +kernel) (by decide +kernel)
theorem kw_131 : Cond.fieldLink "java/lang/Throwable" 20 "java/lang/Throwable" "SUPPRESSED_SENTINEL" "Ljava/util/List;" ∈ allw := allw_of 147 (by decide +kernel) (by decide +kernel)
theorem kw_133 : Cond.methodLink "java/lang/Throwable" 27 ⟨"java/lang/Throwable", "fillInStackTrace", "()Ljava/lang/Throwable;"⟩ ∈ allw := allw_of 149 (by decide +kernel) (by decide +kernel)
theorem kw_134 : Cond.instanceMethod ⟨"java/lang/Throwable", "fillInStackTrace", "()Ljava/lang/Throwable;"⟩ ∈ allw := allw_of 150 (by decide +kernel) (by decide +kernel)
theorem kw_136 : Cond.selects "java/lang/IllegalStateException" ⟨"java/lang/Throwable", "fillInStackTrace", "()Ljava/lang/Throwable;"⟩ ⟨"java/lang/Throwable", "fillInStackTrace", "()Ljava/lang/Throwable;"⟩ ∈ allw := allw_of 152 (by decide +kernel) (by decide +kernel)
theorem kw_137 : Cond.selects "java/lang/IndexOutOfBoundsException" ⟨"java/lang/Throwable", "fillInStackTrace", "()Ljava/lang/Throwable;"⟩ ⟨"java/lang/Throwable", "fillInStackTrace", "()Ljava/lang/Throwable;"⟩ ∈ allw := allw_of 153 (by decide +kernel) (by decide +kernel)
theorem kw_139 : Cond.methodLink "java/lang/Throwable" 202 ⟨"java/lang/Throwable", "fillInStackTrace", "(I)Ljava/lang/Throwable;"⟩ ∈ allw := allw_of 155 (by decide +kernel) (by decide +kernel)
theorem kw_141 : Cond.instanceMethod ⟨"java/lang/Throwable", "fillInStackTrace", "(I)Ljava/lang/Throwable;"⟩ ∈ allw := allw_of 157 (by decide +kernel) (by decide +kernel)
theorem kw_142 : Cond.instantiable "java/lang/Throwable" 6 ∈ allw := allw_of 158 (by decide +kernel) (by decide +kernel)
theorem kw_143 : Cond.native ⟨"java/lang/Throwable", "fillInStackTrace", "(I)Ljava/lang/Throwable;"⟩ ∈ allw := allw_of 159 (by decide +kernel) (by decide +kernel)
theorem kw_145 : Cond.methodLink "WaveRows" 51 ⟨"java/lang/IllegalArgumentException", "<init>", "(Ljava/lang/String;)V"⟩ ∈ allw := allw_of 161 (by decide +kernel) (by decide +kernel)
theorem kw_146 : Cond.instanceMethod ⟨"java/lang/IllegalArgumentException", "<init>", "(Ljava/lang/String;)V"⟩ ∈ allw := allw_of 162 (by decide +kernel) (by decide +kernel)
theorem kw_147 : Cond.code ⟨"java/lang/IllegalArgumentException", "<init>", "(Ljava/lang/String;)V"⟩ prog_6_method_2_code 2 none ∈ allw := allw_of 163 (by decide +kernel) (by decide +kernel)
theorem kw_148 : Cond.methodLink "java/lang/IllegalArgumentException" 7 ⟨"java/lang/RuntimeException", "<init>", "(Ljava/lang/String;)V"⟩ ∈ allw := allw_of 164 (by decide +kernel) (by decide +kernel)
theorem kw_149 : Cond.instanceMethod ⟨"java/lang/RuntimeException", "<init>", "(Ljava/lang/String;)V"⟩ ∈ allw := allw_of 165 (by decide +kernel) (by decide +kernel)
theorem kw_150 : Cond.code ⟨"java/lang/RuntimeException", "<init>", "(Ljava/lang/String;)V"⟩ prog_10_method_2_code 2 none ∈ allw := allw_of 166 (by decide +kernel) (by decide +kernel)
theorem kw_151 : Cond.methodLink "java/lang/RuntimeException" 7 ⟨"java/lang/Exception", "<init>", "(Ljava/lang/String;)V"⟩ ∈ allw := allw_of 167 (by decide +kernel) (by decide +kernel)
theorem kw_152 : Cond.instanceMethod ⟨"java/lang/Exception", "<init>", "(Ljava/lang/String;)V"⟩ ∈ allw := allw_of 168 (by decide +kernel) (by decide +kernel)
theorem kw_153 : Cond.code ⟨"java/lang/Exception", "<init>", "(Ljava/lang/String;)V"⟩ prog_5_method_2_code 2 none ∈ allw := allw_of 169 (by decide +kernel) (by decide +kernel)
theorem kw_154 : Cond.methodLink "java/lang/Exception" 7 ⟨"java/lang/Throwable", "<init>", "(Ljava/lang/String;)V"⟩ ∈ allw := allw_of 170 (by decide +kernel) (by decide +kernel)
theorem kw_155 : Cond.instanceMethod ⟨"java/lang/Throwable", "<init>", "(Ljava/lang/String;)V"⟩ ∈ allw := allw_of 171 (by decide +kernel) (by decide +kernel)
theorem kw_156 : Cond.code ⟨"java/lang/Throwable", "<init>", "(Ljava/lang/String;)V"⟩ prog_13_method_2_code 2 none ∈ allw := allw_of 172 (by decide +kernel) (by decide +kernel)
theorem kw_157 : Cond.fieldLink "java/lang/Throwable" 198 "java/lang/Throwable" "backtrace" "Ljava/lang/Object;" ∈ allw := allw_of 173 (by decide +kernel) (by decide +kernel)
theorem kw_158 : Cond.fieldLink "java/lang/Throwable" 31 "java/lang/Throwable" "detailMessage" "Ljava/lang/String;" ∈ allw := allw_of 174 (by decide +kernel) (by decide +kernel)
theorem kw_159 : Cond.fieldLink "java/lang/Throwable" 7 "java/lang/Throwable" "cause" "Ljava/lang/Throwable;" ∈ allw := allw_of 175 (by decide +kernel) (by decide +kernel)
theorem kw_160 : Cond.fieldLink "java/lang/Throwable" 17 "java/lang/Throwable" "stackTrace" "[Ljava/lang/StackTraceElement;" ∈ allw := allw_of 176 (by decide +kernel) (by decide +kernel)
theorem kw_161 : Cond.fieldLink "java/lang/Throwable" 24 "java/lang/Throwable" "suppressedExceptions" "Ljava/util/List;" ∈ allw := allw_of 177 (by decide +kernel) (by decide +kernel)
theorem kw_170 : Cond.arrayClass .byte ∈ allw := allw_of 186 (by decide +kernel) (by decide +kernel)
theorem kw_171 : Cond.classLink "WaveRows" 57 "java/lang/IllegalStateException" ∈ allw := allw_of 187 (by decide +kernel) (by decide +kernel)
theorem kw_172 : Cond.instantiable "java/lang/IllegalStateException" 6 ∈ allw := allw_of 188 (by decide +kernel) (by decide +kernel)
theorem kw_174 : Cond.selects "java/lang/IllegalStateException" ⟨"java/lang/Throwable", "fillInStackTrace", "(I)Ljava/lang/Throwable;"⟩ ⟨"java/lang/Throwable", "fillInStackTrace", "(I)Ljava/lang/Throwable;"⟩ ∈ allw := allw_of 190 (by decide +kernel) (by decide +kernel)
theorem kw_181 : Cond.methodLink "WaveRows" 61 ⟨"java/lang/IllegalStateException", "<init>", "(Ljava/lang/String;)V"⟩ ∈ allw := allw_of 197 (by decide +kernel) (by decide +kernel)
theorem kw_182 : Cond.instanceMethod ⟨"java/lang/IllegalStateException", "<init>", "(Ljava/lang/String;)V"⟩ ∈ allw := allw_of 198 (by decide +kernel) (by decide +kernel)
theorem kw_183 : Cond.code ⟨"java/lang/IllegalStateException", "<init>", "(Ljava/lang/String;)V"⟩ prog_7_method_2_code 2 none ∈ allw := allw_of 199 (by decide +kernel) (by decide +kernel)
theorem kw_184 : Cond.methodLink "java/lang/IllegalStateException" 7 ⟨"java/lang/RuntimeException", "<init>", "(Ljava/lang/String;)V"⟩ ∈ allw := allw_of 200 (by decide +kernel) (by decide +kernel)
theorem kw_187 : Cond.methodLink "WaveRowsLaw" 73 ⟨"WaveRowsLaw", "assign", "(LWaveRows;IIJ[J)I"⟩ ∈ allw := allw_of 203 (by decide +kernel) (by decide +kernel)
theorem kw_188 : Cond.static ⟨"WaveRowsLaw", "assign", "(LWaveRows;IIJ[J)I"⟩ ∈ allw := allw_of 204 (by decide +kernel) (by decide +kernel)
theorem kw_189 : Cond.codeWith ⟨"WaveRowsLaw", "assign", "(LWaveRows;IIJ[J)I"⟩ method_4_code 7 (some .int) [(0, 12, 15, 21), (0, 12, 19, 15), (0, 12, 23, 13)] ∈ allw := allw_of 205 (by decide +kernel) (by decide +kernel)
theorem kw_190 : Cond.classLink "WaveRowsLaw" 21 "java/lang/IndexOutOfBoundsException" ∈ allw := allw_of 206 (by decide +kernel) (by decide +kernel)
theorem kw_191 : Cond.methodLink "WaveRowsLaw" 17 ⟨"WaveRows", "assign", "(IIJ)I"⟩ ∈ allw := allw_of 207 (by decide +kernel) (by decide +kernel)
theorem kw_192 : Cond.instanceMethod ⟨"WaveRows", "assign", "(IIJ)I"⟩ ∈ allw := allw_of 208 (by decide +kernel) (by decide +kernel)
theorem kw_193 : Cond.selects "WaveRows" ⟨"WaveRows", "assign", "(IIJ)I"⟩ ⟨"WaveRows", "assign", "(IIJ)I"⟩ ∈ allw := allw_of 209 (by decide +kernel) (by decide +kernel)
theorem kw_194 : Cond.code ⟨"WaveRows", "assign", "(IIJ)I"⟩ prog_1_method_4_code 14 (some .int) ∈ allw := allw_of 210 (by decide +kernel) (by decide +kernel)
theorem kw_195 : Cond.methodLink "WaveRows" 62 ⟨"WaveRows", "requireDriver", "(I)V"⟩ ∈ allw := allw_of 211 (by decide +kernel) (by decide +kernel)
theorem kw_197 : Cond.instanceMethod ⟨"WaveRows", "requireDriver", "(I)V"⟩ ∈ allw := allw_of 213 (by decide +kernel) (by decide +kernel)
theorem kw_198 : Cond.code ⟨"WaveRows", "requireDriver", "(I)V"⟩ prog_1_method_15_code 2 none ∈ allw := allw_of 214 (by decide +kernel) (by decide +kernel)
theorem kw_199 : Cond.classLink "WaveRows" 120 "java/lang/IndexOutOfBoundsException" ∈ allw := allw_of 215 (by decide +kernel) (by decide +kernel)
theorem kw_200 : Cond.instantiable "java/lang/IndexOutOfBoundsException" 6 ∈ allw := allw_of 216 (by decide +kernel) (by decide +kernel)
theorem kw_202 : Cond.selects "java/lang/IndexOutOfBoundsException" ⟨"java/lang/Throwable", "fillInStackTrace", "(I)Ljava/lang/Throwable;"⟩ ⟨"java/lang/Throwable", "fillInStackTrace", "(I)Ljava/lang/Throwable;"⟩ ∈ allw := allw_of 218 (by decide +kernel) (by decide +kernel)
theorem kw_209 : Cond.methodLink "WaveRows" 124 ⟨"java/lang/IndexOutOfBoundsException", "<init>", "(Ljava/lang/String;)V"⟩ ∈ allw := allw_of 225 (by decide +kernel) (by decide +kernel)
theorem kw_210 : Cond.instanceMethod ⟨"java/lang/IndexOutOfBoundsException", "<init>", "(Ljava/lang/String;)V"⟩ ∈ allw := allw_of 226 (by decide +kernel) (by decide +kernel)
theorem kw_211 : Cond.code ⟨"java/lang/IndexOutOfBoundsException", "<init>", "(Ljava/lang/String;)V"⟩ prog_8_method_2_code 2 none ∈ allw := allw_of 227 (by decide +kernel) (by decide +kernel)
theorem kw_212 : Cond.methodLink "java/lang/IndexOutOfBoundsException" 7 ⟨"java/lang/RuntimeException", "<init>", "(Ljava/lang/String;)V"⟩ ∈ allw := allw_of 228 (by decide +kernel) (by decide +kernel)
theorem kw_216 : Cond.methodLink "WaveRows" 68 ⟨"WaveRows", "isLimitGood", "(IJ)Z"⟩ ∈ allw := allw_of 232 (by decide +kernel) (by decide +kernel)
theorem kw_218 : Cond.instanceMethod ⟨"WaveRows", "isLimitGood", "(IJ)Z"⟩ ∈ allw := allw_of 234 (by decide +kernel) (by decide +kernel)
theorem kw_219 : Cond.code ⟨"WaveRows", "isLimitGood", "(IJ)Z"⟩ prog_1_method_16_code 4 (some .boolean) ∈ allw := allw_of 235 (by decide +kernel) (by decide +kernel)
theorem kw_220 : Cond.methodLink "WaveRows" 72 ⟨"WaveRows", "areDelaysGood", "()Z"⟩ ∈ allw := allw_of 236 (by decide +kernel) (by decide +kernel)
theorem kw_222 : Cond.instanceMethod ⟨"WaveRows", "areDelaysGood", "()Z"⟩ ∈ allw := allw_of 238 (by decide +kernel) (by decide +kernel)
theorem kw_223 : Cond.code ⟨"WaveRows", "areDelaysGood", "()Z"⟩ prog_1_method_17_code 4 (some .boolean) ∈ allw := allw_of 239 (by decide +kernel) (by decide +kernel)
theorem kw_225 : Cond.methodLink "WaveRows" 82 ⟨"WaveRows", "firstBehind", "(IIJ)I"⟩ ∈ allw := allw_of 241 (by decide +kernel) (by decide +kernel)
theorem kw_227 : Cond.instanceMethod ⟨"WaveRows", "firstBehind", "(IIJ)I"⟩ ∈ allw := allw_of 243 (by decide +kernel) (by decide +kernel)
theorem kw_228 : Cond.code ⟨"WaveRows", "firstBehind", "(IIJ)I"⟩ prog_1_method_20_code 6 (some .int) ∈ allw := allw_of 244 (by decide +kernel) (by decide +kernel)
theorem kw_229 : Cond.methodLink "WaveRows" 86 ⟨"WaveRows", "limitOf", "(IJ)J"⟩ ∈ allw := allw_of 245 (by decide +kernel) (by decide +kernel)
theorem kw_231 : Cond.instanceMethod ⟨"WaveRows", "limitOf", "(IJ)J"⟩ ∈ allw := allw_of 247 (by decide +kernel) (by decide +kernel)
theorem kw_232 : Cond.code ⟨"WaveRows", "limitOf", "(IJ)J"⟩ prog_1_method_18_code 4 (some .long) ∈ allw := allw_of 248 (by decide +kernel) (by decide +kernel)
theorem kw_233 : Cond.methodLink "WaveRows" 90 ⟨"WaveRows", "startOfSameValues", "(IIJ)I"⟩ ∈ allw := allw_of 249 (by decide +kernel) (by decide +kernel)
theorem kw_235 : Cond.instanceMethod ⟨"WaveRows", "startOfSameValues", "(IIJ)I"⟩ ∈ allw := allw_of 251 (by decide +kernel) (by decide +kernel)
theorem kw_236 : Cond.code ⟨"WaveRows", "startOfSameValues", "(IIJ)I"⟩ prog_1_method_21_code 6 (some .int) ∈ allw := allw_of 252 (by decide +kernel) (by decide +kernel)
theorem kw_238 : Cond.methodLink "WaveRows" 95 ⟨"WaveRows", "moveTransactions", "(III)V"⟩ ∈ allw := allw_of 254 (by decide +kernel) (by decide +kernel)
theorem kw_240 : Cond.instanceMethod ⟨"WaveRows", "moveTransactions", "(III)V"⟩ ∈ allw := allw_of 256 (by decide +kernel) (by decide +kernel)
theorem kw_241 : Cond.code ⟨"WaveRows", "moveTransactions", "(III)V"⟩ prog_1_method_22_code 4 none ∈ allw := allw_of 257 (by decide +kernel) (by decide +kernel)
theorem kw_242 : Cond.methodLink "WaveRows" 129 ⟨"java/lang/System", "arraycopy", "(Ljava/lang/Object;ILjava/lang/Object;II)V"⟩ ∈ allw := allw_of 258 (by decide +kernel) (by decide +kernel)
theorem kw_243 : Cond.static ⟨"java/lang/System", "arraycopy", "(Ljava/lang/Object;ILjava/lang/Object;II)V"⟩ ∈ allw := allw_of 259 (by decide +kernel) (by decide +kernel)
theorem kw_244 : Cond.native ⟨"java/lang/System", "arraycopy", "(Ljava/lang/Object;ILjava/lang/Object;II)V"⟩ ∈ allw := allw_of 260 (by decide +kernel) (by decide +kernel)
theorem kw_245 : Cond.methodLink "WaveRows" 99 ⟨"WaveRows", "endRowAt", "(II)V"⟩ ∈ allw := allw_of 261 (by decide +kernel) (by decide +kernel)
theorem kw_247 : Cond.instanceMethod ⟨"WaveRows", "endRowAt", "(II)V"⟩ ∈ allw := allw_of 263 (by decide +kernel) (by decide +kernel)
theorem kw_248 : Cond.code ⟨"WaveRows", "endRowAt", "(II)V"⟩ prog_1_method_23_code 7 none ∈ allw := allw_of 264 (by decide +kernel) (by decide +kernel)
theorem kw_249 : Cond.methodLink "WaveRows" 135 ⟨"WaveRows", "makePlaces", "(I)V"⟩ ∈ allw := allw_of 265 (by decide +kernel) (by decide +kernel)
theorem kw_251 : Cond.instanceMethod ⟨"WaveRows", "makePlaces", "(I)V"⟩ ∈ allw := allw_of 267 (by decide +kernel) (by decide +kernel)
theorem kw_252 : Cond.code ⟨"WaveRows", "makePlaces", "(I)V"⟩ prog_1_method_24_code 3 none ∈ allw := allw_of 268 (by decide +kernel) (by decide +kernel)
theorem kw_253 : Cond.methodLink "WaveRows" 138 ⟨"java/lang/Math", "max", "(II)I"⟩ ∈ allw := allw_of 269 (by decide +kernel) (by decide +kernel)
theorem kw_254 : Cond.static ⟨"java/lang/Math", "max", "(II)I"⟩ ∈ allw := allw_of 270 (by decide +kernel) (by decide +kernel)
theorem kw_255 : Cond.code ⟨"java/lang/Math", "max", "(II)I"⟩ prog_9_method_65_code 2 (some .int) ∈ allw := allw_of 271 (by decide +kernel) (by decide +kernel)
theorem kw_256 : Cond.methodLink "WaveRows" 141 ⟨"java/util/Arrays", "copyOf", "([JI)[J"⟩ ∈ allw := allw_of 272 (by decide +kernel) (by decide +kernel)
theorem kw_257 : Cond.static ⟨"java/util/Arrays", "copyOf", "([JI)[J"⟩ ∈ allw := allw_of 273 (by decide +kernel) (by decide +kernel)
theorem kw_258 : Cond.code ⟨"java/util/Arrays", "copyOf", "([JI)[J"⟩ prog_14_method_124_code 3 (some (.array .long)) ∈ allw := allw_of 274 (by decide +kernel) (by decide +kernel)
theorem kw_259 : Cond.methodLink "java/util/Arrays" 319 ⟨"[J", "clone", "()Ljava/lang/Object;"⟩ ∈ allw := allw_of 275 (by decide +kernel) (by decide +kernel)
theorem kw_261 : Cond.native ⟨"java/lang/Object", "clone", "()Ljava/lang/Object;"⟩ ∈ allw := allw_of 277 (by decide +kernel) (by decide +kernel)
theorem kw_262 : Cond.instanceMethod ⟨"java/lang/Object", "clone", "()Ljava/lang/Object;"⟩ ∈ allw := allw_of 278 (by decide +kernel) (by decide +kernel)
theorem kw_263 : Cond.selects "[J" ⟨"[J", "clone", "()Ljava/lang/Object;"⟩ ⟨"java/lang/Object", "clone", "()Ljava/lang/Object;"⟩ ∈ allw := allw_of 279 (by decide +kernel) (by decide +kernel)
theorem kw_265 : Cond.classLink "java/util/Arrays" 320 "[J" ∈ allw := allw_of 281 (by decide +kernel) (by decide +kernel)
theorem kw_266 : Cond.methodLink "java/util/Arrays" 304 ⟨"java/lang/Math", "min", "(II)I"⟩ ∈ allw := allw_of 282 (by decide +kernel) (by decide +kernel)
theorem kw_267 : Cond.methodLink "java/util/Arrays" 150 ⟨"java/lang/System", "arraycopy", "(Ljava/lang/Object;ILjava/lang/Object;II)V"⟩ ∈ allw := allw_of 283 (by decide +kernel) (by decide +kernel)
theorem kw_268 : Cond.methodLink "WaveRows" 103 ⟨"WaveRows", "writeElements", "(I)V"⟩ ∈ allw := allw_of 284 (by decide +kernel) (by decide +kernel)
theorem kw_270 : Cond.instanceMethod ⟨"WaveRows", "writeElements", "(I)V"⟩ ∈ allw := allw_of 286 (by decide +kernel) (by decide +kernel)
theorem kw_271 : Cond.code ⟨"WaveRows", "writeElements", "(I)V"⟩ prog_1_method_25_code 3 none ∈ allw := allw_of 287 (by decide +kernel) (by decide +kernel)
theorem kw_272 : Cond.methodLink "WaveRowsLaw" 77 ⟨"WaveRowsLaw", "start", "(LWaveRows;IJ[J)I"⟩ ∈ allw := allw_of 288 (by decide +kernel) (by decide +kernel)
theorem kw_273 : Cond.static ⟨"WaveRowsLaw", "start", "(LWaveRows;IJ[J)I"⟩ ∈ allw := allw_of 289 (by decide +kernel) (by decide +kernel)
theorem kw_274 : Cond.codeWith ⟨"WaveRowsLaw", "start", "(LWaveRows;IJ[J)I"⟩ method_5_code 6 (some .int) [(0, 11, 14, 21)] ∈ allw := allw_of 290 (by decide +kernel) (by decide +kernel)
theorem kw_275 : Cond.methodLink "WaveRowsLaw" 23 ⟨"WaveRows", "start", "(IJ)I"⟩ ∈ allw := allw_of 291 (by decide +kernel) (by decide +kernel)
theorem kw_276 : Cond.instanceMethod ⟨"WaveRows", "start", "(IJ)I"⟩ ∈ allw := allw_of 292 (by decide +kernel) (by decide +kernel)
theorem kw_277 : Cond.selects "WaveRows" ⟨"WaveRows", "start", "(IJ)I"⟩ ⟨"WaveRows", "start", "(IJ)I"⟩ ∈ allw := allw_of 293 (by decide +kernel) (by decide +kernel)
theorem kw_278 : Cond.code ⟨"WaveRows", "start", "(IJ)I"⟩ prog_1_method_5_code 5 (some .int) ∈ allw := allw_of 294 (by decide +kernel) (by decide +kernel)
theorem kw_279 : Cond.methodLink "WaveRowsLaw" 81 ⟨"WaveRowsLaw", "advance", "(LWaveRows;J[J)I"⟩ ∈ allw := allw_of 295 (by decide +kernel) (by decide +kernel)
theorem kw_280 : Cond.static ⟨"WaveRowsLaw", "advance", "(LWaveRows;J[J)I"⟩ ∈ allw := allw_of 296 (by decide +kernel) (by decide +kernel)
theorem kw_281 : Cond.codeWith ⟨"WaveRowsLaw", "advance", "(LWaveRows;J[J)I"⟩ method_6_code 5 (some .int) [(0, 9, 12, 13)] ∈ allw := allw_of 297 (by decide +kernel) (by decide +kernel)
theorem kw_282 : Cond.methodLink "WaveRowsLaw" 27 ⟨"WaveRows", "advance", "(J)I"⟩ ∈ allw := allw_of 298 (by decide +kernel) (by decide +kernel)
theorem kw_283 : Cond.instanceMethod ⟨"WaveRows", "advance", "(J)I"⟩ ∈ allw := allw_of 299 (by decide +kernel) (by decide +kernel)
theorem kw_284 : Cond.selects "WaveRows" ⟨"WaveRows", "advance", "(J)I"⟩ ⟨"WaveRows", "advance", "(J)I"⟩ ∈ allw := allw_of 300 (by decide +kernel) (by decide +kernel)
theorem kw_285 : Cond.code ⟨"WaveRows", "advance", "(J)I"⟩ prog_1_method_6_code 8 (some .int) ∈ allw := allw_of 301 (by decide +kernel) (by decide +kernel)
theorem kw_287 : Cond.methodLink "WaveRowsLaw" 98 ⟨"WaveRowsLaw", "value", "(LWaveRows;I[J)I"⟩ ∈ allw := allw_of 303 (by decide +kernel) (by decide +kernel)
theorem kw_288 : Cond.static ⟨"WaveRowsLaw", "value", "(LWaveRows;I[J)I"⟩ ∈ allw := allw_of 304 (by decide +kernel) (by decide +kernel)
theorem kw_289 : Cond.codeWith ⟨"WaveRowsLaw", "value", "(LWaveRows;I[J)I"⟩ method_7_code 4 (some .int) [(0, 8, 11, 21)] ∈ allw := allw_of 305 (by decide +kernel) (by decide +kernel)
theorem kw_290 : Cond.methodLink "WaveRowsLaw" 31 ⟨"WaveRows", "value", "(I)J"⟩ ∈ allw := allw_of 306 (by decide +kernel) (by decide +kernel)
theorem kw_291 : Cond.instanceMethod ⟨"WaveRows", "value", "(I)J"⟩ ∈ allw := allw_of 307 (by decide +kernel) (by decide +kernel)
theorem kw_292 : Cond.selects "WaveRows" ⟨"WaveRows", "value", "(I)J"⟩ ⟨"WaveRows", "value", "(I)J"⟩ ∈ allw := allw_of 308 (by decide +kernel) (by decide +kernel)
theorem kw_293 : Cond.code ⟨"WaveRows", "value", "(I)J"⟩ prog_1_method_10_code 2 (some .long) ∈ allw := allw_of 309 (by decide +kernel) (by decide +kernel)
theorem kw_294 : Cond.methodLink "WaveRowsLaw" 102 ⟨"WaveRowsLaw", "count", "(LWaveRows;I[J)I"⟩ ∈ allw := allw_of 310 (by decide +kernel) (by decide +kernel)
theorem kw_295 : Cond.static ⟨"WaveRowsLaw", "count", "(LWaveRows;I[J)I"⟩ ∈ allw := allw_of 311 (by decide +kernel) (by decide +kernel)
theorem kw_296 : Cond.codeWith ⟨"WaveRowsLaw", "count", "(LWaveRows;I[J)I"⟩ method_8_code 4 (some .int) [(0, 9, 12, 21)] ∈ allw := allw_of 312 (by decide +kernel) (by decide +kernel)
theorem kw_297 : Cond.methodLink "WaveRowsLaw" 35 ⟨"WaveRows", "count", "(I)I"⟩ ∈ allw := allw_of 313 (by decide +kernel) (by decide +kernel)
theorem kw_298 : Cond.instanceMethod ⟨"WaveRows", "count", "(I)I"⟩ ∈ allw := allw_of 314 (by decide +kernel) (by decide +kernel)
theorem kw_299 : Cond.selects "WaveRows" ⟨"WaveRows", "count", "(I)I"⟩ ⟨"WaveRows", "count", "(I)I"⟩ ∈ allw := allw_of 315 (by decide +kernel) (by decide +kernel)
theorem kw_300 : Cond.code ⟨"WaveRows", "count", "(I)I"⟩ prog_1_method_11_code 2 (some .int) ∈ allw := allw_of 316 (by decide +kernel) (by decide +kernel)
theorem kw_301 : Cond.methodLink "WaveRowsLaw" 105 ⟨"WaveRowsLaw", "at", "(LWaveRows;IIZ[J)I"⟩ ∈ allw := allw_of 317 (by decide +kernel) (by decide +kernel)
theorem kw_302 : Cond.static ⟨"WaveRowsLaw", "at", "(LWaveRows;IIZ[J)I"⟩ ∈ allw := allw_of 318 (by decide +kernel) (by decide +kernel)
theorem kw_303 : Cond.codeWith ⟨"WaveRowsLaw", "at", "(LWaveRows;IIZ[J)I"⟩ method_9_code 6 (some .int) [(0, 11, 14, 21)] ∈ allw := allw_of 319 (by decide +kernel) (by decide +kernel)
theorem kw_304 : Cond.methodLink "WaveRowsLaw" 39 ⟨"WaveRows", "at", "(IIZ)J"⟩ ∈ allw := allw_of 320 (by decide +kernel) (by decide +kernel)
theorem kw_305 : Cond.instanceMethod ⟨"WaveRows", "at", "(IIZ)J"⟩ ∈ allw := allw_of 321 (by decide +kernel) (by decide +kernel)
theorem kw_306 : Cond.selects "WaveRows" ⟨"WaveRows", "at", "(IIZ)J"⟩ ⟨"WaveRows", "at", "(IIZ)J"⟩ ∈ allw := allw_of 322 (by decide +kernel) (by decide +kernel)
theorem kw_307 : Cond.code ⟨"WaveRows", "at", "(IIZ)J"⟩ prog_1_method_12_code 5 (some .long) ∈ allw := allw_of 323 (by decide +kernel) (by decide +kernel)
theorem kw_309 : Cond.methodLink "WaveRowsLaw" 109 ⟨"WaveRowsLaw", "projected", "(LWaveRows;IJ[J)I"⟩ ∈ allw := allw_of 325 (by decide +kernel) (by decide +kernel)
theorem kw_310 : Cond.static ⟨"WaveRowsLaw", "projected", "(LWaveRows;IJ[J)I"⟩ ∈ allw := allw_of 326 (by decide +kernel) (by decide +kernel)
theorem kw_311 : Cond.codeWith ⟨"WaveRowsLaw", "projected", "(LWaveRows;IJ[J)I"⟩ method_10_code 6 (some .int) [(0, 10, 13, 21), (0, 10, 17, 13)] ∈ allw := allw_of 327 (by decide +kernel) (by decide +kernel)
theorem kw_312 : Cond.methodLink "WaveRowsLaw" 43 ⟨"WaveRows", "projected", "(IJ)J"⟩ ∈ allw := allw_of 328 (by decide +kernel) (by decide +kernel)
theorem kw_313 : Cond.instanceMethod ⟨"WaveRows", "projected", "(IJ)J"⟩ ∈ allw := allw_of 329 (by decide +kernel) (by decide +kernel)
theorem kw_314 : Cond.selects "WaveRows" ⟨"WaveRows", "projected", "(IJ)J"⟩ ⟨"WaveRows", "projected", "(IJ)J"⟩ ∈ allw := allw_of 330 (by decide +kernel) (by decide +kernel)
theorem kw_315 : Cond.code ⟨"WaveRows", "projected", "(IJ)J"⟩ prog_1_method_13_code 6 (some .long) ∈ allw := allw_of 331 (by decide +kernel) (by decide +kernel)
theorem kw_317 : Cond.classLink "WaveRowsLaw" 56 "WaveRowsModel" ∈ allw := allw_of 333 (by decide +kernel) (by decide +kernel)
theorem kw_318 : Cond.instantiable "WaveRowsModel" 16 ∈ allw := allw_of 334 (by decide +kernel) (by decide +kernel)
theorem kw_319 : Cond.methodLink "WaveRowsLaw" 58 ⟨"WaveRowsModel", "<init>", "(II)V"⟩ ∈ allw := allw_of 335 (by decide +kernel) (by decide +kernel)
theorem kw_320 : Cond.instanceMethod ⟨"WaveRowsModel", "<init>", "(II)V"⟩ ∈ allw := allw_of 336 (by decide +kernel) (by decide +kernel)
theorem kw_321 : Cond.code ⟨"WaveRowsModel", "<init>", "(II)V"⟩ prog_3_method_1_code 3 none ∈ allw := allw_of 337 (by decide +kernel) (by decide +kernel)
theorem kw_322 : Cond.methodLink "WaveRowsModel" 1 ⟨"java/lang/Object", "<init>", "()V"⟩ ∈ allw := allw_of 338 (by decide +kernel) (by decide +kernel)
theorem kw_323 : Cond.fieldLink "WaveRowsModel" 49 "WaveRowsModel" "thrown" "I" ∈ allw := allw_of 339 (by decide +kernel) (by decide +kernel)
theorem kw_324 : Cond.fieldLink "WaveRowsModel" 42 "WaveRowsModel" "drivers" "I" ∈ allw := allw_of 340 (by decide +kernel) (by decide +kernel)
theorem kw_325 : Cond.fieldLink "WaveRowsModel" 46 "WaveRowsModel" "room" "I" ∈ allw := allw_of 341 (by decide +kernel) (by decide +kernel)
theorem kw_326 : Cond.fieldLink "WaveRowsModel" 7 "WaveRowsModel" "values" "[J" ∈ allw := allw_of 342 (by decide +kernel) (by decide +kernel)
theorem kw_327 : Cond.fieldLink "WaveRowsModel" 13 "WaveRowsModel" "active" "[Z" ∈ allw := allw_of 343 (by decide +kernel) (by decide +kernel)
theorem kw_328 : Cond.fieldLink "WaveRowsModel" 68 "WaveRowsModel" "now" "J" ∈ allw := allw_of 344 (by decide +kernel) (by decide +kernel)
theorem kw_329 : Cond.fieldLink "WaveRowsModel" 17 "WaveRowsModel" "owners" "[I" ∈ allw := allw_of 345 (by decide +kernel) (by decide +kernel)
theorem kw_330 : Cond.fieldLink "WaveRowsModel" 21 "WaveRowsModel" "times" "[J" ∈ allw := allw_of 346 (by decide +kernel) (by decide +kernel)
theorem kw_331 : Cond.fieldLink "WaveRowsModel" 24 "WaveRowsModel" "what" "[J" ∈ allw := allw_of 347 (by decide +kernel) (by decide +kernel)
theorem kw_332 : Cond.fieldLink "WaveRowsModel" 57 "WaveRowsModel" "size" "I" ∈ allw := allw_of 348 (by decide +kernel) (by decide +kernel)
theorem kw_333 : Cond.fieldLink "WaveRowsModel" 27 "WaveRowsModel" "newValues" "[J" ∈ allw := allw_of 349 (by decide +kernel) (by decide +kernel)
theorem kw_334 : Cond.fieldLink "WaveRowsModel" 30 "WaveRowsModel" "delays" "[J" ∈ allw := allw_of 350 (by decide +kernel) (by decide +kernel)
theorem kw_335 : Cond.fieldLink "WaveRowsModel" 54 "WaveRowsModel" "elements" "I" ∈ allw := allw_of 351 (by decide +kernel) (by decide +kernel)
theorem kw_336 : Cond.fieldLink "WaveRowsModel" 33 "WaveRowsModel" "rowTimes" "[J" ∈ allw := allw_of 352 (by decide +kernel) (by decide +kernel)
theorem kw_337 : Cond.fieldLink "WaveRowsModel" 36 "WaveRowsModel" "rowValues" "[J" ∈ allw := allw_of 353 (by decide +kernel) (by decide +kernel)
theorem kw_338 : Cond.fieldLink "WaveRowsModel" 39 "WaveRowsModel" "marked" "[Z" ∈ allw := allw_of 354 (by decide +kernel) (by decide +kernel)
theorem kw_372 : Cond.arrayClass .boolean ∈ allw := allw_of 388 (by decide +kernel) (by decide +kernel)
theorem kw_373 : Cond.methodLink "WaveRowsLaw" 65 ⟨"WaveRowsModel", "thrown", "()I"⟩ ∈ allw := allw_of 389 (by decide +kernel) (by decide +kernel)
theorem kw_374 : Cond.instanceMethod ⟨"WaveRowsModel", "thrown", "()I"⟩ ∈ allw := allw_of 390 (by decide +kernel) (by decide +kernel)
theorem kw_375 : Cond.selects "WaveRowsModel" ⟨"WaveRowsModel", "thrown", "()I"⟩ ⟨"WaveRowsModel", "thrown", "()I"⟩ ∈ allw := allw_of 391 (by decide +kernel) (by decide +kernel)
theorem kw_376 : Cond.code ⟨"WaveRowsModel", "thrown", "()I"⟩ prog_3_method_2_code 1 (some .int) ∈ allw := allw_of 392 (by decide +kernel) (by decide +kernel)
theorem kw_377 : Cond.methodLink "WaveRowsLaw" 64 ⟨"WaveRowsModel", "element", "(JJ)V"⟩ ∈ allw := allw_of 393 (by decide +kernel) (by decide +kernel)
theorem kw_378 : Cond.instanceMethod ⟨"WaveRowsModel", "element", "(JJ)V"⟩ ∈ allw := allw_of 394 (by decide +kernel) (by decide +kernel)
theorem kw_379 : Cond.selects "WaveRowsModel" ⟨"WaveRowsModel", "element", "(JJ)V"⟩ ⟨"WaveRowsModel", "element", "(JJ)V"⟩ ∈ allw := allw_of 395 (by decide +kernel) (by decide +kernel)
theorem kw_380 : Cond.code ⟨"WaveRowsModel", "element", "(JJ)V"⟩ prog_3_method_4_code 5 none ∈ allw := allw_of 396 (by decide +kernel) (by decide +kernel)
theorem kw_381 : Cond.constantLong "WaveRowsModel" 52 1152921504606846976 ∈ allw := allw_of 397 (by decide +kernel) (by decide +kernel)
theorem kw_382 : Cond.methodLink "WaveRowsLaw" 72 ⟨"WaveRowsModel", "drop", "()I"⟩ ∈ allw := allw_of 398 (by decide +kernel) (by decide +kernel)
theorem kw_383 : Cond.instanceMethod ⟨"WaveRowsModel", "drop", "()I"⟩ ∈ allw := allw_of 399 (by decide +kernel) (by decide +kernel)
theorem kw_384 : Cond.selects "WaveRowsModel" ⟨"WaveRowsModel", "drop", "()I"⟩ ⟨"WaveRowsModel", "drop", "()I"⟩ ∈ allw := allw_of 400 (by decide +kernel) (by decide +kernel)
theorem kw_385 : Cond.code ⟨"WaveRowsModel", "drop", "()I"⟩ prog_3_method_5_code 2 (some .int) ∈ allw := allw_of 401 (by decide +kernel) (by decide +kernel)
theorem kw_386 : Cond.methodLink "WaveRowsLaw" 76 ⟨"WaveRowsModel", "assign", "(IIJ)I"⟩ ∈ allw := allw_of 402 (by decide +kernel) (by decide +kernel)
theorem kw_387 : Cond.instanceMethod ⟨"WaveRowsModel", "assign", "(IIJ)I"⟩ ∈ allw := allw_of 403 (by decide +kernel) (by decide +kernel)
theorem kw_388 : Cond.selects "WaveRowsModel" ⟨"WaveRowsModel", "assign", "(IIJ)I"⟩ ⟨"WaveRowsModel", "assign", "(IIJ)I"⟩ ∈ allw := allw_of 404 (by decide +kernel) (by decide +kernel)
theorem kw_389 : Cond.code ⟨"WaveRowsModel", "assign", "(IIJ)I"⟩ prog_3_method_8_code 13 (some .int) ∈ allw := allw_of 405 (by decide +kernel) (by decide +kernel)
theorem kw_390 : Cond.methodLink "WaveRowsModel" 60 ⟨"WaveRowsModel", "none", "(I)Z"⟩ ∈ allw := allw_of 406 (by decide +kernel) (by decide +kernel)
theorem kw_392 : Cond.instanceMethod ⟨"WaveRowsModel", "none", "(I)Z"⟩ ∈ allw := allw_of 408 (by decide +kernel) (by decide +kernel)
theorem kw_393 : Cond.code ⟨"WaveRowsModel", "none", "(I)Z"⟩ prog_3_method_3_code 2 (some .boolean) ∈ allw := allw_of 409 (by decide +kernel) (by decide +kernel)
theorem kw_394 : Cond.methodLink "WaveRowsModel" 64 ⟨"WaveRowsModel", "rises", "()Z"⟩ ∈ allw := allw_of 410 (by decide +kernel) (by decide +kernel)
theorem kw_396 : Cond.instanceMethod ⟨"WaveRowsModel", "rises", "()Z"⟩ ∈ allw := allw_of 412 (by decide +kernel) (by decide +kernel)
theorem kw_397 : Cond.code ⟨"WaveRowsModel", "rises", "()Z"⟩ prog_3_method_6_code 3 (some .boolean) ∈ allw := allw_of 413 (by decide +kernel) (by decide +kernel)
theorem kw_398 : Cond.methodLink "WaveRowsModel" 72 ⟨"WaveRowsModel", "replace", "(II)V"⟩ ∈ allw := allw_of 414 (by decide +kernel) (by decide +kernel)
theorem kw_400 : Cond.instanceMethod ⟨"WaveRowsModel", "replace", "(II)V"⟩ ∈ allw := allw_of 416 (by decide +kernel) (by decide +kernel)
theorem kw_401 : Cond.code ⟨"WaveRowsModel", "replace", "(II)V"⟩ prog_3_method_7_code 5 none ∈ allw := allw_of 417 (by decide +kernel) (by decide +kernel)
theorem kw_402 : Cond.methodLink "WaveRowsLaw" 80 ⟨"WaveRowsModel", "start", "(IJ)I"⟩ ∈ allw := allw_of 418 (by decide +kernel) (by decide +kernel)
theorem kw_403 : Cond.instanceMethod ⟨"WaveRowsModel", "start", "(IJ)I"⟩ ∈ allw := allw_of 419 (by decide +kernel) (by decide +kernel)
theorem kw_404 : Cond.selects "WaveRowsModel" ⟨"WaveRowsModel", "start", "(IJ)I"⟩ ⟨"WaveRowsModel", "start", "(IJ)I"⟩ ∈ allw := allw_of 420 (by decide +kernel) (by decide +kernel)
theorem kw_405 : Cond.code ⟨"WaveRowsModel", "start", "(IJ)I"⟩ prog_3_method_9_code 5 (some .int) ∈ allw := allw_of 421 (by decide +kernel) (by decide +kernel)
theorem kw_406 : Cond.methodLink "WaveRowsLaw" 84 ⟨"WaveRowsModel", "advance", "(J)I"⟩ ∈ allw := allw_of 422 (by decide +kernel) (by decide +kernel)
theorem kw_407 : Cond.instanceMethod ⟨"WaveRowsModel", "advance", "(J)I"⟩ ∈ allw := allw_of 423 (by decide +kernel) (by decide +kernel)
theorem kw_408 : Cond.selects "WaveRowsModel" ⟨"WaveRowsModel", "advance", "(J)I"⟩ ⟨"WaveRowsModel", "advance", "(J)I"⟩ ∈ allw := allw_of 424 (by decide +kernel) (by decide +kernel)
theorem kw_409 : Cond.code ⟨"WaveRowsModel", "advance", "(J)I"⟩ prog_3_method_10_code 6 (some .int) ∈ allw := allw_of 425 (by decide +kernel) (by decide +kernel)
theorem kw_410 : Cond.methodLink "WaveRowsLaw" 88 ⟨"WaveRowsModel", "active", "(I)I"⟩ ∈ allw := allw_of 426 (by decide +kernel) (by decide +kernel)
theorem kw_411 : Cond.instanceMethod ⟨"WaveRowsModel", "active", "(I)I"⟩ ∈ allw := allw_of 427 (by decide +kernel) (by decide +kernel)
theorem kw_412 : Cond.selects "WaveRowsModel" ⟨"WaveRowsModel", "active", "(I)I"⟩ ⟨"WaveRowsModel", "active", "(I)I"⟩ ∈ allw := allw_of 428 (by decide +kernel) (by decide +kernel)
theorem kw_413 : Cond.code ⟨"WaveRowsModel", "active", "(I)I"⟩ prog_3_method_11_code 4 (some .int) ∈ allw := allw_of 429 (by decide +kernel) (by decide +kernel)
theorem kw_414 : Cond.methodLink "WaveRowsLaw" 93 ⟨"WaveRowsModel", "now", "()J"⟩ ∈ allw := allw_of 430 (by decide +kernel) (by decide +kernel)
theorem kw_415 : Cond.instanceMethod ⟨"WaveRowsModel", "now", "()J"⟩ ∈ allw := allw_of 431 (by decide +kernel) (by decide +kernel)
theorem kw_416 : Cond.selects "WaveRowsModel" ⟨"WaveRowsModel", "now", "()J"⟩ ⟨"WaveRowsModel", "now", "()J"⟩ ∈ allw := allw_of 432 (by decide +kernel) (by decide +kernel)
theorem kw_417 : Cond.code ⟨"WaveRowsModel", "now", "()J"⟩ prog_3_method_12_code 1 (some .long) ∈ allw := allw_of 433 (by decide +kernel) (by decide +kernel)
theorem kw_418 : Cond.methodLink "WaveRowsLaw" 97 ⟨"WaveRowsModel", "next", "()J"⟩ ∈ allw := allw_of 434 (by decide +kernel) (by decide +kernel)
theorem kw_419 : Cond.instanceMethod ⟨"WaveRowsModel", "next", "()J"⟩ ∈ allw := allw_of 435 (by decide +kernel) (by decide +kernel)
theorem kw_420 : Cond.selects "WaveRowsModel" ⟨"WaveRowsModel", "next", "()J"⟩ ⟨"WaveRowsModel", "next", "()J"⟩ ∈ allw := allw_of 436 (by decide +kernel) (by decide +kernel)
theorem kw_421 : Cond.code ⟨"WaveRowsModel", "next", "()J"⟩ prog_3_method_13_code 4 (some .long) ∈ allw := allw_of 437 (by decide +kernel) (by decide +kernel)
theorem kw_422 : Cond.constantLong "WaveRowsModel" 76 (-1) ∈ allw := allw_of 438 (by decide +kernel) (by decide +kernel)
theorem kw_423 : Cond.methodLink "WaveRowsLaw" 101 ⟨"WaveRowsModel", "value", "(I)J"⟩ ∈ allw := allw_of 439 (by decide +kernel) (by decide +kernel)
theorem kw_424 : Cond.instanceMethod ⟨"WaveRowsModel", "value", "(I)J"⟩ ∈ allw := allw_of 440 (by decide +kernel) (by decide +kernel)
theorem kw_425 : Cond.selects "WaveRowsModel" ⟨"WaveRowsModel", "value", "(I)J"⟩ ⟨"WaveRowsModel", "value", "(I)J"⟩ ∈ allw := allw_of 441 (by decide +kernel) (by decide +kernel)
theorem kw_426 : Cond.code ⟨"WaveRowsModel", "value", "(I)J"⟩ prog_3_method_14_code 2 (some .long) ∈ allw := allw_of 442 (by decide +kernel) (by decide +kernel)
theorem kw_427 : Cond.methodLink "WaveRowsLaw" 104 ⟨"WaveRowsModel", "count", "(I)I"⟩ ∈ allw := allw_of 443 (by decide +kernel) (by decide +kernel)
theorem kw_428 : Cond.instanceMethod ⟨"WaveRowsModel", "count", "(I)I"⟩ ∈ allw := allw_of 444 (by decide +kernel) (by decide +kernel)
theorem kw_429 : Cond.selects "WaveRowsModel" ⟨"WaveRowsModel", "count", "(I)I"⟩ ⟨"WaveRowsModel", "count", "(I)I"⟩ ∈ allw := allw_of 445 (by decide +kernel) (by decide +kernel)
theorem kw_430 : Cond.code ⟨"WaveRowsModel", "count", "(I)I"⟩ prog_3_method_16_code 4 (some .int) ∈ allw := allw_of 446 (by decide +kernel) (by decide +kernel)
theorem kw_431 : Cond.methodLink "WaveRowsLaw" 108 ⟨"WaveRowsModel", "at", "(IIZ)J"⟩ ∈ allw := allw_of 447 (by decide +kernel) (by decide +kernel)
theorem kw_432 : Cond.instanceMethod ⟨"WaveRowsModel", "at", "(IIZ)J"⟩ ∈ allw := allw_of 448 (by decide +kernel) (by decide +kernel)
theorem kw_433 : Cond.selects "WaveRowsModel" ⟨"WaveRowsModel", "at", "(IIZ)J"⟩ ⟨"WaveRowsModel", "at", "(IIZ)J"⟩ ∈ allw := allw_of 449 (by decide +kernel) (by decide +kernel)
theorem kw_434 : Cond.code ⟨"WaveRowsModel", "at", "(IIZ)J"⟩ prog_3_method_17_code 5 (some .long) ∈ allw := allw_of 450 (by decide +kernel) (by decide +kernel)
theorem kw_435 : Cond.methodLink "WaveRowsModel" 78 ⟨"WaveRowsModel", "find", "(II)I"⟩ ∈ allw := allw_of 451 (by decide +kernel) (by decide +kernel)
theorem kw_437 : Cond.instanceMethod ⟨"WaveRowsModel", "find", "(II)I"⟩ ∈ allw := allw_of 453 (by decide +kernel) (by decide +kernel)
theorem kw_438 : Cond.code ⟨"WaveRowsModel", "find", "(II)I"⟩ prog_3_method_15_code 5 (some .int) ∈ allw := allw_of 454 (by decide +kernel) (by decide +kernel)
theorem kw_439 : Cond.methodLink "WaveRowsLaw" 111 ⟨"WaveRowsModel", "projected", "(IJ)J"⟩ ∈ allw := allw_of 455 (by decide +kernel) (by decide +kernel)
theorem kw_440 : Cond.instanceMethod ⟨"WaveRowsModel", "projected", "(IJ)J"⟩ ∈ allw := allw_of 456 (by decide +kernel) (by decide +kernel)
theorem kw_441 : Cond.selects "WaveRowsModel" ⟨"WaveRowsModel", "projected", "(IJ)J"⟩ ⟨"WaveRowsModel", "projected", "(IJ)J"⟩ ∈ allw := allw_of 457 (by decide +kernel) (by decide +kernel)
theorem kw_442 : Cond.code ⟨"WaveRowsModel", "projected", "(IJ)J"⟩ prog_3_method_18_code 7 (some .long) ∈ allw := allw_of 458 (by decide +kernel) (by decide +kernel)
theorem kw_443 : Cond.methodLink "WaveRowsLaw" 115 ⟨"WaveRowsModel", "total", "()I"⟩ ∈ allw := allw_of 459 (by decide +kernel) (by decide +kernel)
theorem kw_444 : Cond.instanceMethod ⟨"WaveRowsModel", "total", "()I"⟩ ∈ allw := allw_of 460 (by decide +kernel) (by decide +kernel)
theorem kw_445 : Cond.selects "WaveRowsModel" ⟨"WaveRowsModel", "total", "()I"⟩ ⟨"WaveRowsModel", "total", "()I"⟩ ∈ allw := allw_of 461 (by decide +kernel) (by decide +kernel)
theorem kw_446 : Cond.code ⟨"WaveRowsModel", "total", "()I"⟩ prog_3_method_19_code 1 (some .int) ∈ allw := allw_of 462 (by decide +kernel) (by decide +kernel)
theorem kw_447 : Cond.constantLong "WaveRowsLaw" 59 4294967295 ∈ allw := allw_of 463 (by decide +kernel) (by decide +kernel)
abbrev cX0_init : ByteArray := prog_1_method_1_code
def yX0_init : MethodName := ⟨RX0, "<init>", "(II)V"⟩
def wsX0_init : List Cond := .code yX0_init cX0_init 4 none :: allw
abbrev cX0_drop : ByteArray := prog_1_method_3_code
def yX0_drop : MethodName := ⟨RX0, "drop", "()I"⟩
def wsX0_drop : List Cond := .code yX0_drop cX0_drop 2 (some .int) :: allw
abbrev cX0_active : ByteArray := prog_1_method_7_code
def yX0_active : MethodName := ⟨RX0, "active", "(I)I"⟩
def wsX0_active : List Cond := .code yX0_active cX0_active 2 (some .int) :: allw
abbrev cX0_now : ByteArray := prog_1_method_8_code
def yX0_now : MethodName := ⟨RX0, "now", "()J"⟩
def wsX0_now : List Cond := .code yX0_now cX0_now 1 (some .long) :: allw
abbrev cX0_next : ByteArray := prog_1_method_9_code
def yX0_next : MethodName := ⟨RX0, "next", "()J"⟩
def wsX0_next : List Cond := .code yX0_next cX0_next 6 (some .long) :: allw
abbrev cX0_rowLength : ByteArray := prog_1_method_19_code
def yX0_rowLength : MethodName := ⟨RX0, "rowLength", "(I)I"⟩
def wsX0_rowLength : List Cond := .code yX0_rowLength cX0_rowLength 2 (some .int) :: allw
abbrev cX0_total : ByteArray := prog_1_method_14_code
def yX0_total : MethodName := ⟨RX0, "total", "()I"⟩
def wsX0_total : List Cond := .code yX0_total cX0_total 1 (some .int) :: allw
abbrev cL_cell : ByteArray := method_2_code
def yL_cell : MethodName := ⟨RL, "cell", "([II)I"⟩
def wsL_cell : List Cond := .code yL_cell cL_cell 2 (some .int) :: allw
abbrev cL_element : ByteArray := method_3_code
def yL_element : MethodName := ⟨RL, "element", "(LWaveRows;JJ)I"⟩
def hhL_element : List (Nat × Nat × Nat × Nat) := [(0, 6, 9, 13), (0, 6, 13, 15)]
def wsL_element : List Cond := .codeWith yL_element cL_element 6 (some .int) hhL_element :: allw
abbrev cX0_element : ByteArray := prog_1_method_2_code
def yX0_element : MethodName := ⟨RX0, "element", "(JJ)V"⟩
def wsX0_element : List Cond := .code yX0_element cX0_element 5 none :: allw
abbrev cL_assign : ByteArray := method_4_code
def yL_assign : MethodName := ⟨RL, "assign", "(LWaveRows;IIJ[J)I"⟩
def hhL_assign : List (Nat × Nat × Nat × Nat) := [(0, 12, 15, 21), (0, 12, 19, 15), (0, 12, 23, 13)]
def wsL_assign : List Cond := .codeWith yL_assign cL_assign 7 (some .int) hhL_assign :: allw
abbrev cX0_assign : ByteArray := prog_1_method_4_code
def yX0_assign : MethodName := ⟨RX0, "assign", "(IIJ)I"⟩
def wsX0_assign : List Cond := .code yX0_assign cX0_assign 14 (some .int) :: allw
abbrev cX0_requireDriver : ByteArray := prog_1_method_15_code
def yX0_requireDriver : MethodName := ⟨RX0, "requireDriver", "(I)V"⟩
def wsX0_requireDriver : List Cond := .code yX0_requireDriver cX0_requireDriver 2 none :: allw
abbrev cX0_isLimitGood : ByteArray := prog_1_method_16_code
def yX0_isLimitGood : MethodName := ⟨RX0, "isLimitGood", "(IJ)Z"⟩
def wsX0_isLimitGood : List Cond := .code yX0_isLimitGood cX0_isLimitGood 4 (some .boolean) :: allw
abbrev cX0_areDelaysGood : ByteArray := prog_1_method_17_code
def yX0_areDelaysGood : MethodName := ⟨RX0, "areDelaysGood", "()Z"⟩
def wsX0_areDelaysGood : List Cond := .code yX0_areDelaysGood cX0_areDelaysGood 4 (some .boolean) :: allw
abbrev cX0_firstBehind : ByteArray := prog_1_method_20_code
def yX0_firstBehind : MethodName := ⟨RX0, "firstBehind", "(IIJ)I"⟩
def wsX0_firstBehind : List Cond := .code yX0_firstBehind cX0_firstBehind 6 (some .int) :: allw
abbrev cX0_limitOf : ByteArray := prog_1_method_18_code
def yX0_limitOf : MethodName := ⟨RX0, "limitOf", "(IJ)J"⟩
def wsX0_limitOf : List Cond := .code yX0_limitOf cX0_limitOf 4 (some .long) :: allw
abbrev cX0_startOfSameValues : ByteArray := prog_1_method_21_code
def yX0_startOfSameValues : MethodName := ⟨RX0, "startOfSameValues", "(IIJ)I"⟩
def wsX0_startOfSameValues : List Cond := .code yX0_startOfSameValues cX0_startOfSameValues 6 (some .int) :: allw
abbrev cX0_moveTransactions : ByteArray := prog_1_method_22_code
def yX0_moveTransactions : MethodName := ⟨RX0, "moveTransactions", "(III)V"⟩
def wsX0_moveTransactions : List Cond := .code yX0_moveTransactions cX0_moveTransactions 4 none :: allw
abbrev cX0_endRowAt : ByteArray := prog_1_method_23_code
def yX0_endRowAt : MethodName := ⟨RX0, "endRowAt", "(II)V"⟩
def wsX0_endRowAt : List Cond := .code yX0_endRowAt cX0_endRowAt 7 none :: allw
abbrev cX0_makePlaces : ByteArray := prog_1_method_24_code
def yX0_makePlaces : MethodName := ⟨RX0, "makePlaces", "(I)V"⟩
def wsX0_makePlaces : List Cond := .code yX0_makePlaces cX0_makePlaces 3 none :: allw
abbrev cJ7_copyOf : ByteArray := prog_14_method_124_code
def yJ7_copyOf : MethodName := ⟨RJ7, "copyOf", "([JI)[J"⟩
def wsJ7_copyOf : List Cond := .code yJ7_copyOf cJ7_copyOf 3 (some (.array .long)) :: allw
abbrev cX0_writeElements : ByteArray := prog_1_method_25_code
def yX0_writeElements : MethodName := ⟨RX0, "writeElements", "(I)V"⟩
def wsX0_writeElements : List Cond := .code yX0_writeElements cX0_writeElements 3 none :: allw
abbrev cL_start : ByteArray := method_5_code
def yL_start : MethodName := ⟨RL, "start", "(LWaveRows;IJ[J)I"⟩
def hhL_start : List (Nat × Nat × Nat × Nat) := [(0, 11, 14, 21)]
def wsL_start : List Cond := .codeWith yL_start cL_start 6 (some .int) hhL_start :: allw
abbrev cX0_start : ByteArray := prog_1_method_5_code
def yX0_start : MethodName := ⟨RX0, "start", "(IJ)I"⟩
def wsX0_start : List Cond := .code yX0_start cX0_start 5 (some .int) :: allw
abbrev cL_advance : ByteArray := method_6_code
def yL_advance : MethodName := ⟨RL, "advance", "(LWaveRows;J[J)I"⟩
def hhL_advance : List (Nat × Nat × Nat × Nat) := [(0, 9, 12, 13)]
def wsL_advance : List Cond := .codeWith yL_advance cL_advance 5 (some .int) hhL_advance :: allw
abbrev cX0_advance : ByteArray := prog_1_method_6_code
def yX0_advance : MethodName := ⟨RX0, "advance", "(J)I"⟩
def wsX0_advance : List Cond := .code yX0_advance cX0_advance 8 (some .int) :: allw
abbrev cL_value : ByteArray := method_7_code
def yL_value : MethodName := ⟨RL, "value", "(LWaveRows;I[J)I"⟩
def hhL_value : List (Nat × Nat × Nat × Nat) := [(0, 8, 11, 21)]
def wsL_value : List Cond := .codeWith yL_value cL_value 4 (some .int) hhL_value :: allw
abbrev cX0_value : ByteArray := prog_1_method_10_code
def yX0_value : MethodName := ⟨RX0, "value", "(I)J"⟩
def wsX0_value : List Cond := .code yX0_value cX0_value 2 (some .long) :: allw
abbrev cL_count : ByteArray := method_8_code
def yL_count : MethodName := ⟨RL, "count", "(LWaveRows;I[J)I"⟩
def hhL_count : List (Nat × Nat × Nat × Nat) := [(0, 9, 12, 21)]
def wsL_count : List Cond := .codeWith yL_count cL_count 4 (some .int) hhL_count :: allw
abbrev cX0_count : ByteArray := prog_1_method_11_code
def yX0_count : MethodName := ⟨RX0, "count", "(I)I"⟩
def wsX0_count : List Cond := .code yX0_count cX0_count 2 (some .int) :: allw
abbrev cL_at : ByteArray := method_9_code
def yL_at : MethodName := ⟨RL, "at", "(LWaveRows;IIZ[J)I"⟩
def hhL_at : List (Nat × Nat × Nat × Nat) := [(0, 11, 14, 21)]
def wsL_at : List Cond := .codeWith yL_at cL_at 6 (some .int) hhL_at :: allw
abbrev cX0_at : ByteArray := prog_1_method_12_code
def yX0_at : MethodName := ⟨RX0, "at", "(IIZ)J"⟩
def wsX0_at : List Cond := .code yX0_at cX0_at 5 (some .long) :: allw
abbrev cL_projected : ByteArray := method_10_code
def yL_projected : MethodName := ⟨RL, "projected", "(LWaveRows;IJ[J)I"⟩
def hhL_projected : List (Nat × Nat × Nat × Nat) := [(0, 10, 13, 21), (0, 10, 17, 13)]
def wsL_projected : List Cond := .codeWith yL_projected cL_projected 6 (some .int) hhL_projected :: allw
abbrev cX0_projected : ByteArray := prog_1_method_13_code
def yX0_projected : MethodName := ⟨RX0, "projected", "(IJ)J"⟩
def wsX0_projected : List Cond := .code yX0_projected cX0_projected 6 (some .long) :: allw
abbrev cX1_init : ByteArray := prog_3_method_1_code
def yX1_init : MethodName := ⟨RX1, "<init>", "(II)V"⟩
def wsX1_init : List Cond := .code yX1_init cX1_init 3 none :: allw
abbrev cX1_thrown : ByteArray := prog_3_method_2_code
def yX1_thrown : MethodName := ⟨RX1, "thrown", "()I"⟩
def wsX1_thrown : List Cond := .code yX1_thrown cX1_thrown 1 (some .int) :: allw
abbrev cX1_element : ByteArray := prog_3_method_4_code
def yX1_element : MethodName := ⟨RX1, "element", "(JJ)V"⟩
def wsX1_element : List Cond := .code yX1_element cX1_element 5 none :: allw
abbrev cX1_drop : ByteArray := prog_3_method_5_code
def yX1_drop : MethodName := ⟨RX1, "drop", "()I"⟩
def wsX1_drop : List Cond := .code yX1_drop cX1_drop 2 (some .int) :: allw
abbrev cX1_assign : ByteArray := prog_3_method_8_code
def yX1_assign : MethodName := ⟨RX1, "assign", "(IIJ)I"⟩
def wsX1_assign : List Cond := .code yX1_assign cX1_assign 13 (some .int) :: allw
abbrev cX1_none : ByteArray := prog_3_method_3_code
def yX1_none : MethodName := ⟨RX1, "none", "(I)Z"⟩
def wsX1_none : List Cond := .code yX1_none cX1_none 2 (some .boolean) :: allw
abbrev cX1_rises : ByteArray := prog_3_method_6_code
def yX1_rises : MethodName := ⟨RX1, "rises", "()Z"⟩
def wsX1_rises : List Cond := .code yX1_rises cX1_rises 3 (some .boolean) :: allw
abbrev cX1_replace : ByteArray := prog_3_method_7_code
def yX1_replace : MethodName := ⟨RX1, "replace", "(II)V"⟩
def wsX1_replace : List Cond := .code yX1_replace cX1_replace 5 none :: allw
abbrev cX1_start : ByteArray := prog_3_method_9_code
def yX1_start : MethodName := ⟨RX1, "start", "(IJ)I"⟩
def wsX1_start : List Cond := .code yX1_start cX1_start 5 (some .int) :: allw
abbrev cX1_advance : ByteArray := prog_3_method_10_code
def yX1_advance : MethodName := ⟨RX1, "advance", "(J)I"⟩
def wsX1_advance : List Cond := .code yX1_advance cX1_advance 6 (some .int) :: allw
abbrev cX1_active : ByteArray := prog_3_method_11_code
def yX1_active : MethodName := ⟨RX1, "active", "(I)I"⟩
def wsX1_active : List Cond := .code yX1_active cX1_active 4 (some .int) :: allw
abbrev cX1_now : ByteArray := prog_3_method_12_code
def yX1_now : MethodName := ⟨RX1, "now", "()J"⟩
def wsX1_now : List Cond := .code yX1_now cX1_now 1 (some .long) :: allw
abbrev cX1_next : ByteArray := prog_3_method_13_code
def yX1_next : MethodName := ⟨RX1, "next", "()J"⟩
def wsX1_next : List Cond := .code yX1_next cX1_next 4 (some .long) :: allw
abbrev cX1_value : ByteArray := prog_3_method_14_code
def yX1_value : MethodName := ⟨RX1, "value", "(I)J"⟩
def wsX1_value : List Cond := .code yX1_value cX1_value 2 (some .long) :: allw
abbrev cX1_count : ByteArray := prog_3_method_16_code
def yX1_count : MethodName := ⟨RX1, "count", "(I)I"⟩
def wsX1_count : List Cond := .code yX1_count cX1_count 4 (some .int) :: allw
abbrev cX1_at : ByteArray := prog_3_method_17_code
def yX1_at : MethodName := ⟨RX1, "at", "(IIZ)J"⟩
def wsX1_at : List Cond := .code yX1_at cX1_at 5 (some .long) :: allw
abbrev cX1_find : ByteArray := prog_3_method_15_code
def yX1_find : MethodName := ⟨RX1, "find", "(II)I"⟩
def wsX1_find : List Cond := .code yX1_find cX1_find 5 (some .int) :: allw
abbrev cX1_projected : ByteArray := prog_3_method_18_code
def yX1_projected : MethodName := ⟨RX1, "projected", "(IJ)J"⟩
def wsX1_projected : List Cond := .code yX1_projected cX1_projected 7 (some .long) :: allw
abbrev cX1_total : ByteArray := prog_3_method_19_code
def yX1_total : MethodName := ⟨RX1, "total", "()I"⟩
def wsX1_total : List Cond := .code yX1_total cX1_total 1 (some .int) :: allw
abbrev cL_law : ByteArray := code
def yL_law : MethodName := ⟨RL, "law", "([I)Z"⟩
end
section
theorem gL_69 : GoodIn allw (wsV RL 69 RX0 yX0_drop wsX0_drop) := gV kw_62 kw_63 kw_64 kw_1 kw_65
theorem gL_85 : GoodIn allw (wsV RL 85 RX0 yX0_active wsX0_active) := gV kw_66 kw_67 kw_68 kw_1 kw_69
theorem gL_89 : GoodIn allw (wsV RL 89 RX0 yX0_now wsX0_now) := gV kw_70 kw_71 kw_72 kw_1 kw_73
theorem gL_94 : GoodIn allw (wsV RL 94 RX0 yX0_next wsX0_next) := gV kw_74 kw_75 kw_76 kw_1 kw_77
theorem gX0_106 : GoodIn allw (wsV RX0 106 RX0 yX0_rowLength wsX0_rowLength) := gV kw_79 kw_81 kp_0 kw_1 kw_82
theorem gL_112 : GoodIn allw (wsV RL 112 RX0 yX0_total wsX0_total) := gV kw_86 kw_87 kw_88 kw_1 kw_89
theorem gL_47 : GoodIn allw (va_wsS RL 47 yL_cell wsL_cell) := gS kw_90 kw_91 kw_0 kw_92
theorem gL_7 : GoodIn allw (wsV RL 7 RX0 yX0_element wsX0_element) := gV kw_98 kw_99 kw_100 kw_1 kw_101
theorem gL_17 : GoodIn allw (wsV RL 17 RX0 yX0_assign wsX0_assign) := gV kw_191 kw_192 kw_193 kw_1 kw_194
theorem gX0_62 : GoodIn allw (wsV RX0 62 RX0 yX0_requireDriver wsX0_requireDriver) := gV kw_195 kw_197 kp_2 kw_1 kw_198
theorem gX0_68 : GoodIn allw (wsV RX0 68 RX0 yX0_isLimitGood wsX0_isLimitGood) := gV kw_216 kw_218 kp_3 kw_1 kw_219
theorem gX0_72 : GoodIn allw (wsV RX0 72 RX0 yX0_areDelaysGood wsX0_areDelaysGood) := gV kw_220 kw_222 kp_4 kw_1 kw_223
theorem gX0_82 : GoodIn allw (wsV RX0 82 RX0 yX0_firstBehind wsX0_firstBehind) := gV kw_225 kw_227 kp_5 kw_1 kw_228
theorem gX0_86 : GoodIn allw (wsV RX0 86 RX0 yX0_limitOf wsX0_limitOf) := gV kw_229 kw_231 kp_6 kw_1 kw_232
theorem gX0_90 : GoodIn allw (wsV RX0 90 RX0 yX0_startOfSameValues wsX0_startOfSameValues) := gV kw_233 kw_235 kp_7 kw_1 kw_236
theorem gX0_95 : GoodIn allw (wsV RX0 95 RX0 yX0_moveTransactions wsX0_moveTransactions) := gV kw_238 kw_240 kp_8 kw_1 kw_241
theorem gX0_99 : GoodIn allw (wsV RX0 99 RX0 yX0_endRowAt wsX0_endRowAt) := gV kw_245 kw_247 kp_9 kw_1 kw_248
theorem gX0_135 : GoodIn allw (wsV RX0 135 RX0 yX0_makePlaces wsX0_makePlaces) := gV kw_249 kw_251 kp_10 kw_1 kw_252
theorem gX0_141 : GoodIn allw (va_wsS RX0 141 yJ7_copyOf wsJ7_copyOf) := gS kw_256 kw_257 kw_11 kw_258
theorem gX0_103 : GoodIn allw (wsV RX0 103 RX0 yX0_writeElements wsX0_writeElements) := gV kw_268 kw_270 kp_11 kw_1 kw_271
theorem gL_23 : GoodIn allw (wsV RL 23 RX0 yX0_start wsX0_start) := gV kw_275 kw_276 kw_277 kw_1 kw_278
theorem gL_27 : GoodIn allw (wsV RL 27 RX0 yX0_advance wsX0_advance) := gV kw_282 kw_283 kw_284 kw_1 kw_285
theorem gL_31 : GoodIn allw (wsV RL 31 RX0 yX0_value wsX0_value) := gV kw_290 kw_291 kw_292 kw_1 kw_293
theorem gL_35 : GoodIn allw (wsV RL 35 RX0 yX0_count wsX0_count) := gV kw_297 kw_298 kw_299 kw_1 kw_300
theorem gL_39 : GoodIn allw (wsV RL 39 RX0 yX0_at wsX0_at) := gV kw_304 kw_305 kw_306 kw_1 kw_307
theorem gL_43 : GoodIn allw (wsV RL 43 RX0 yX0_projected wsX0_projected) := gV kw_312 kw_313 kw_314 kw_1 kw_315
theorem gL_65 : GoodIn allw (wsV RL 65 RX1 yX1_thrown wsX1_thrown) := gV kw_373 kw_374 kw_375 kw_3 kw_376
theorem gL_64 : GoodIn allw (wsV RL 64 RX1 yX1_element wsX1_element) := gV kw_377 kw_378 kw_379 kw_3 kw_380
theorem gL_72 : GoodIn allw (wsV RL 72 RX1 yX1_drop wsX1_drop) := gV kw_382 kw_383 kw_384 kw_3 kw_385
theorem gL_76 : GoodIn allw (wsV RL 76 RX1 yX1_assign wsX1_assign) := gV kw_386 kw_387 kw_388 kw_3 kw_389
theorem gX1_60 : GoodIn allw (wsV RX1 60 RX1 yX1_none wsX1_none) := gV kw_390 kw_392 kp_12 kw_3 kw_393
theorem gX1_64 : GoodIn allw (wsV RX1 64 RX1 yX1_rises wsX1_rises) := gV kw_394 kw_396 kp_13 kw_3 kw_397
theorem gX1_72 : GoodIn allw (wsV RX1 72 RX1 yX1_replace wsX1_replace) := gV kw_398 kw_400 kp_14 kw_3 kw_401
theorem gL_80 : GoodIn allw (wsV RL 80 RX1 yX1_start wsX1_start) := gV kw_402 kw_403 kw_404 kw_3 kw_405
theorem gL_84 : GoodIn allw (wsV RL 84 RX1 yX1_advance wsX1_advance) := gV kw_406 kw_407 kw_408 kw_3 kw_409
theorem gL_88 : GoodIn allw (wsV RL 88 RX1 yX1_active wsX1_active) := gV kw_410 kw_411 kw_412 kw_3 kw_413
theorem gL_93 : GoodIn allw (wsV RL 93 RX1 yX1_now wsX1_now) := gV kw_414 kw_415 kw_416 kw_3 kw_417
theorem gL_97 : GoodIn allw (wsV RL 97 RX1 yX1_next wsX1_next) := gV kw_418 kw_419 kw_420 kw_3 kw_421
theorem gL_101 : GoodIn allw (wsV RL 101 RX1 yX1_value wsX1_value) := gV kw_423 kw_424 kw_425 kw_3 kw_426
theorem gL_104 : GoodIn allw (wsV RL 104 RX1 yX1_count wsX1_count) := gV kw_427 kw_428 kw_429 kw_3 kw_430
theorem gL_108 : GoodIn allw (wsV RL 108 RX1 yX1_at wsX1_at) := gV kw_431 kw_432 kw_433 kw_3 kw_434
theorem gX1_78 : GoodIn allw (wsV RX1 78 RX1 yX1_find wsX1_find) := gV kw_435 kw_437 kp_15 kw_3 kw_438
theorem gL_111 : GoodIn allw (wsV RL 111 RX1 yX1_projected wsX1_projected) := gV kw_439 kw_440 kw_441 kw_3 kw_442
theorem gL_115 : GoodIn allw (wsV RL 115 RX1 yX1_total wsX1_total) := gV kw_443 kw_444 kw_445 kw_3 kw_446
end
section
/-! own rows for a walk: a top that is rewritten, compares of counted numbers, compares of longs, arrays at counted places -/
section XA
variable {p : Program} {l : Launch} {e : Env} {R : Room} {s : State} {m : MethodId} {args : Array Value} {below : List Frame} {meth : Method} {c : Code} {H : Heap} {locs : List Loc} {cells slots : Nat} {Q : State → Prop}
variable {cc : ByteArray} {pc : Nat} {ls : Array Slot} {rest : List Value} {D : va_G} {cl : List vw_C} {ws : va_W} {tys : List (ClassId × FieldType)} {A : Nat → Prop} {H0 : Heap} {a : Nat}
theorem tp_i {x y : Int32} (h : x = y) (k : W p l e R s m args below meth c H locs cells slots Q (F0 m pc ls (.int y :: rest))) : W p l e R s m args below meth c H locs cells slots Q (F0 m pc ls (.int x :: rest)) := by
  subst h; exact k
theorem tp_l {x y : Int64} (h : x = y) (k : W p l e R s m args below meth c H locs cells slots Q (F0 m pc ls (.long y :: rest))) : W p l e R s m args below meth c H locs cells slots Q (F0 m pc ls (.long x :: rest)) := by
  subst h; exact k
theorem xl_gt {x y : Int64} {off : Int} {tgt : Nat} (hx : p.tables.exec = Jvm.exec) (hb : c.code = cc) (d1 : decode cc pc = .ok (.lcmp, 1)) (d2 : decode cc (pc + 1) = .ok (.ifCond .gt off, 3)) (ht : ((pc + 1 : Nat) : Int) + off = (tgt : Int))
    (kt : y < x → W p l e R s m args below meth c H locs cells slots Q (F0 m tgt ls rest)) (kf : ¬ y < x → W p l e R s m args below meth c H locs cells slots Q (F0 m (pc + 4) ls rest)) : W p l e R s m args below meth c H locs cells slots Q (F0 m pc ls (.long y :: .long x :: rest)) :=
  W.lcmp hx hb d1 (lv_if_gt hx hb d2 ht (fun h => kt ((lg_cmp_gt x y).mp h)) (fun h => kf (fun q => h ((lg_cmp_gt x y).mpr q))))
theorem xl_le {x y : Int64} {off : Int} {tgt : Nat} (hx : p.tables.exec = Jvm.exec) (hb : c.code = cc) (d1 : decode cc pc = .ok (.lcmp, 1)) (d2 : decode cc (pc + 1) = .ok (.ifCond .le off, 3)) (ht : ((pc + 1 : Nat) : Int) + off = (tgt : Int))
    (kt : x ≤ y → W p l e R s m args below meth c H locs cells slots Q (F0 m tgt ls rest)) (kf : ¬ x ≤ y → W p l e R s m args below meth c H locs cells slots Q (F0 m (pc + 4) ls rest)) : W p l e R s m args below meth c H locs cells slots Q (F0 m pc ls (.long y :: .long x :: rest)) :=
  W.lcmp hx hb d1 (lv_if_le hx hb d2 ht (fun h => kt ((lg_cmp_le x y).mp h)) (fun h => kf (fun q => h ((lg_cmp_le x y).mpr q))))
theorem xl_lt {x y : Int64} {off : Int} {tgt : Nat} (hx : p.tables.exec = Jvm.exec) (hb : c.code = cc) (d1 : decode cc pc = .ok (.lcmp, 1)) (d2 : decode cc (pc + 1) = .ok (.ifCond .lt off, 3)) (ht : ((pc + 1 : Nat) : Int) + off = (tgt : Int))
    (kt : x < y → W p l e R s m args below meth c H locs cells slots Q (F0 m tgt ls rest)) (kf : ¬ x < y → W p l e R s m args below meth c H locs cells slots Q (F0 m (pc + 4) ls rest)) : W p l e R s m args below meth c H locs cells slots Q (F0 m pc ls (.long y :: .long x :: rest)) :=
  W.lcmp hx hb d1 (lv_if_lt hx hb d2 ht (fun h => kt ((lg_cmp_lt x y).mp h)) (fun h => kf (fun q => h ((lg_cmp_lt x y).mpr q))))
theorem xl_ge {x y : Int64} {off : Int} {tgt : Nat} (hx : p.tables.exec = Jvm.exec) (hb : c.code = cc) (d1 : decode cc pc = .ok (.lcmp, 1)) (d2 : decode cc (pc + 1) = .ok (.ifCond .ge off, 3)) (ht : ((pc + 1 : Nat) : Int) + off = (tgt : Int))
    (kt : y ≤ x → W p l e R s m args below meth c H locs cells slots Q (F0 m tgt ls rest)) (kf : ¬ y ≤ x → W p l e R s m args below meth c H locs cells slots Q (F0 m (pc + 4) ls rest)) : W p l e R s m args below meth c H locs cells slots Q (F0 m pc ls (.long y :: .long x :: rest)) :=
  W.lcmp hx hb d1 (lv_if_ge hx hb d2 ht (fun h => kt ((lg_cmp_ge x y).mp h)) (fun h => kf (fun q => h ((lg_cmp_ge x y).mpr q))))
theorem xl_eq {x y : Int64} {off : Int} {tgt : Nat} (hx : p.tables.exec = Jvm.exec) (hb : c.code = cc) (d1 : decode cc pc = .ok (.lcmp, 1)) (d2 : decode cc (pc + 1) = .ok (.ifCond .eq off, 3)) (ht : ((pc + 1 : Nat) : Int) + off = (tgt : Int))
    (kt : x = y → W p l e R s m args below meth c H locs cells slots Q (F0 m tgt ls rest)) (kf : ¬ x = y → W p l e R s m args below meth c H locs cells slots Q (F0 m (pc + 4) ls rest)) : W p l e R s m args below meth c H locs cells slots Q (F0 m pc ls (.long y :: .long x :: rest)) :=
  W.lcmp hx hb d1 (lv_if_eq hx hb d2 ht (fun h => kt ((lg_cmp_eq x y).mp h)) (fun h => kf (fun q => h ((lg_cmp_eq x y).mpr q))))
theorem xl_ne {x y : Int64} {off : Int} {tgt : Nat} (hx : p.tables.exec = Jvm.exec) (hb : c.code = cc) (d1 : decode cc pc = .ok (.lcmp, 1)) (d2 : decode cc (pc + 1) = .ok (.ifCond .ne off, 3)) (ht : ((pc + 1 : Nat) : Int) + off = (tgt : Int))
    (kt : ¬ x = y → W p l e R s m args below meth c H locs cells slots Q (F0 m tgt ls rest)) (kf : x = y → W p l e R s m args below meth c H locs cells slots Q (F0 m (pc + 4) ls rest)) : W p l e R s m args below meth c H locs cells slots Q (F0 m pc ls (.long y :: .long x :: rest)) :=
  W.lcmp hx hb d1 (lv_if_ne hx hb d2 ht (fun h => kt (fun q => h ((lg_cmp_eq x y).mpr q))) (fun h => kf ((lg_cmp_eq x y).mp h)))
theorem xc_ge {i j : Nat} {off : Int} {tgt : Nat} (hx : p.tables.exec = Jvm.exec) (hb : c.code = cc) (hi : i < 2 ^ 31) (hj : j < 2 ^ 31) (d : decode cc pc = .ok (.if_icmp .ge off, 3)) (ht : (pc : Int) + off = (tgt : Int))
    (kt : j ≤ i → W p l e R s m args below meth c H locs cells slots Q (F0 m tgt ls rest)) (kf : i < j → W p l e R s m args below meth c H locs cells slots Q (F0 m (pc + 3) ls rest)) : W p l e R s m args below meth c H locs cells slots Q (F0 m pc ls (.int (nI j) :: .int (nI i) :: rest)) :=
  lv_icmp_ge hx hb d ht (fun h => kt ((nI_leI hj hi).mp h)) (fun h => kf (Nat.lt_of_not_le fun q => h ((nI_leI hj hi).mpr q)))
theorem xc_lt {i j : Nat} {off : Int} {tgt : Nat} (hx : p.tables.exec = Jvm.exec) (hb : c.code = cc) (hi : i < 2 ^ 31) (hj : j < 2 ^ 31) (d : decode cc pc = .ok (.if_icmp .lt off, 3)) (ht : (pc : Int) + off = (tgt : Int))
    (kt : i < j → W p l e R s m args below meth c H locs cells slots Q (F0 m tgt ls rest)) (kf : j ≤ i → W p l e R s m args below meth c H locs cells slots Q (F0 m (pc + 3) ls rest)) : W p l e R s m args below meth c H locs cells slots Q (F0 m pc ls (.int (nI j) :: .int (nI i) :: rest)) :=
  lv_icmp_lt hx hb d ht (fun h => kt ((nI_ltI hi hj).mp h)) (fun h => kf (Nat.le_of_not_lt fun q => h ((nI_ltI hi hj).mpr q)))
theorem xc_gt {i j : Nat} {off : Int} {tgt : Nat} (hx : p.tables.exec = Jvm.exec) (hb : c.code = cc) (hi : i < 2 ^ 31) (hj : j < 2 ^ 31) (d : decode cc pc = .ok (.if_icmp .gt off, 3)) (ht : (pc : Int) + off = (tgt : Int))
    (kt : j < i → W p l e R s m args below meth c H locs cells slots Q (F0 m tgt ls rest)) (kf : i ≤ j → W p l e R s m args below meth c H locs cells slots Q (F0 m (pc + 3) ls rest)) : W p l e R s m args below meth c H locs cells slots Q (F0 m pc ls (.int (nI j) :: .int (nI i) :: rest)) :=
  lv_icmp_gt hx hb d ht (fun h => kt ((nI_ltI hj hi).mp h)) (fun h => kf (Nat.le_of_not_lt fun q => h ((nI_ltI hj hi).mpr q)))
theorem xc_le {i j : Nat} {off : Int} {tgt : Nat} (hx : p.tables.exec = Jvm.exec) (hb : c.code = cc) (hi : i < 2 ^ 31) (hj : j < 2 ^ 31) (d : decode cc pc = .ok (.if_icmp .le off, 3)) (ht : (pc : Int) + off = (tgt : Int))
    (kt : i ≤ j → W p l e R s m args below meth c H locs cells slots Q (F0 m tgt ls rest)) (kf : j < i → W p l e R s m args below meth c H locs cells slots Q (F0 m (pc + 3) ls rest)) : W p l e R s m args below meth c H locs cells slots Q (F0 m pc ls (.int (nI j) :: .int (nI i) :: rest)) :=
  lv_icmp_le hx hb d ht (fun h => kt ((nI_leI hi hj).mp h)) (fun h => kf (Nat.lt_of_not_le fun q => h ((nI_leI hi hj).mpr q)))
theorem xz_le {i : Nat} {off : Int} {tgt : Nat} (hx : p.tables.exec = Jvm.exec) (hb : c.code = cc) (hi : i < 2 ^ 31) (d : decode cc pc = .ok (.ifCond .le off, 3)) (ht : (pc : Int) + off = (tgt : Int))
    (kt : i = 0 → W p l e R s m args below meth c H locs cells slots Q (F0 m tgt ls rest)) (kf : 0 < i → W p l e R s m args below meth c H locs cells slots Q (F0 m (pc + 3) ls rest)) : W p l e R s m args below meth c H locs cells slots Q (F0 m pc ls (.int (nI i) :: rest)) :=
  lv_if_le hx hb d ht (fun h => kt (by
    rcases Nat.eq_zero_or_pos i with q | q
    · exact q
    · exact absurd h (nI_nle q hi))) (fun h => kf (by
    rcases Nat.eq_zero_or_pos i with q | q
    · exact absurd (by rw [q, nI_0]; exact Int32.le_refl 0) h
    · exact q))
theorem xz_ne {i : Nat} {off : Int} {tgt : Nat} (hx : p.tables.exec = Jvm.exec) (hb : c.code = cc) (hi : i < 2 ^ 31) (d : decode cc pc = .ok (.ifCond .ne off, 3)) (ht : (pc : Int) + off = (tgt : Int))
    (kt : 0 < i → W p l e R s m args below meth c H locs cells slots Q (F0 m tgt ls rest)) (kf : i = 0 → W p l e R s m args below meth c H locs cells slots Q (F0 m (pc + 3) ls rest)) : W p l e R s m args below meth c H locs cells slots Q (F0 m pc ls (.int (nI i) :: rest)) :=
  lv_if_ne hx hb d ht (fun h => kt (Nat.pos_of_ne_zero fun q => h (by rw [q, nI_0]))) (fun h => kf (by
    rcases Nat.eq_zero_or_pos i with q | q
    · exact q
    · exact absurd h (nI_ne0 q hi)))
theorem xa_iald (hx : p.tables.exec = Jvm.exec) (hb : c.code = cc) (hK : va_K D cl tys s) (hP : va_P D cl ws H) (q0 t0 : Nat) {cA : ClassId} {n : Nat} {f : Nat → Int32} (ha : ws[q0]? = some (a, .inl (cA, n, .inl f))) (ht : tys[t0]? = some (cA, .int)) {k : Nat} (hk : k < n) (hn : n < 2 ^ 31) (hdg : decode cc pc = .ok (.iaload, 1))
    (kk : W p l e R s m args below meth c H locs cells slots Q (F0 m (pc + 1) ls (.int (f k) :: rest))) : W p l e R s m args below meth c H locs cells slots Q (F0 m pc ls (.int (nI k) :: .ref a :: rest)) := by
  refine va_iald hx hb hK hP q0 t0 ha ht (vp_in_nI hk hn) hdg ?_
  rw [nI_clamp (Nat.lt_trans hk hn)]; exact kk
theorem xa_lald (hx : p.tables.exec = Jvm.exec) (hb : c.code = cc) (hK : va_K D cl tys s) (hP : va_P D cl ws H) (q0 t0 : Nat) {cA : ClassId} {n : Nat} {f : Nat → Int64} (ha : ws[q0]? = some (a, .inl (cA, n, .inr (.inl f)))) (ht : tys[t0]? = some (cA, .long)) {k : Nat} (hk : k < n) (hn : n < 2 ^ 31) (hdg : decode cc pc = .ok (.laload, 1))
    (kk : W p l e R s m args below meth c H locs cells slots Q (F0 m (pc + 1) ls (.long (f k) :: rest))) : W p l e R s m args below meth c H locs cells slots Q (F0 m pc ls (.int (nI k) :: .ref a :: rest)) := by
  refine va_lald hx hb hK hP q0 t0 ha ht (vp_in_nI hk hn) hdg ?_
  rw [nI_clamp (Nat.lt_trans hk hn)]; exact kk
theorem xa_iast (hx : p.tables.exec = Jvm.exec) (hb : c.code = cc) (hK : va_K D cl tys s) (hP : va_P D cl ws H) (hD : va_D A ws) (hS : va_S A H0 H locs) (q0 t0 : Nat) {cA : ClassId} {n : Nat} {f : Nat → Int32} (ha : ws[q0]? = some (a, .inl (cA, n, .inl f))) (ht : tys[t0]? = some (cA, .int)) {k : Nat} {x : Int32} (hk : k < n) (hn : n < 2 ^ 31) (hdg : decode cc pc = .ok (.iastore, 1))
    (kk : ∀ (H1 : Heap) (locs1 : List Loc), va_P D cl (ws.set q0 (a, .inl (cA, n, .inl (upd f k x)))) H1 → va_D A (ws.set q0 (a, .inl (cA, n, .inl (upd f k x)))) → va_S A H0 H1 locs1 → W p l e R s m args below meth c H1 locs1 cells slots Q (F0 m (pc + 1) ls rest)) : W p l e R s m args below meth c H locs cells slots Q (F0 m pc ls (.int x :: .int (nI k) :: .ref a :: rest)) := by
  refine va_iast hx hb hK hP hD hS q0 t0 ha ht (vp_in_nI hk hn) hdg ?_
  rw [nI_clamp (Nat.lt_trans hk hn)]; exact kk
theorem xa_last (hx : p.tables.exec = Jvm.exec) (hb : c.code = cc) (hK : va_K D cl tys s) (hP : va_P D cl ws H) (hD : va_D A ws) (hS : va_S A H0 H locs) (q0 t0 : Nat) {cA : ClassId} {n : Nat} {f : Nat → Int64} (ha : ws[q0]? = some (a, .inl (cA, n, .inr (.inl f)))) (ht : tys[t0]? = some (cA, .long)) {k : Nat} {x : Int64} (hk : k < n) (hn : n < 2 ^ 31) (hdg : decode cc pc = .ok (.lastore, 1))
    (kk : ∀ (H1 : Heap) (locs1 : List Loc), va_P D cl (ws.set q0 (a, .inl (cA, n, .inr (.inl (vp_updL f k x))))) H1 → va_D A (ws.set q0 (a, .inl (cA, n, .inr (.inl (vp_updL f k x))))) → va_S A H0 H1 locs1 → W p l e R s m args below meth c H1 locs1 cells slots Q (F0 m (pc + 1) ls rest)) : W p l e R s m args below meth c H locs cells slots Q (F0 m pc ls (.long x :: .int (nI k) :: .ref a :: rest)) := by
  refine va_last hx hb hK hP hD hS q0 t0 ha ht (vp_in_nI hk hn) hdg ?_
  rw [nI_clamp (Nat.lt_trans hk hn)]; exact kk
theorem xa_copyl {own : String} {index : Nat} (hx : p.tables.exec = Jvm.exec) (hb : c.code = cc) (hml : c.maxLocals = ls.size) (hown : s.vm.findClass own = some m.cls) (hlink : (Cond.methodLink own index arraycopyName).before args s = true) (hnat : (Cond.native arraycopyName).before args s = true) (hstat : (Cond.static arraycopyName).before args s = true) (hini : (Cond.initialized "java/lang/System").before args s = true)
    (hK : va_K D cl tys s) (hP : va_P D cl ws H) (hD : va_D A ws) (hS : va_S A H0 H locs) (q0 t0 : Nat) {c0 : ClassId} {N : Nat} {f : Nat → Int64} (ha0 : ws[q0]? = some (a, .inl (c0, N, .inr (.inl f)))) (ht0 : tys[t0]? = some (c0, .long)) {sp dp n : Nat} (h4 : sp + n ≤ N) (h5 : dp + n ≤ N) (hN : N < 2 ^ 31)
    (hframes : 1 ≤ R.frames) (hlocals : (rest.map fun v => v.category).sum + (nativeFrameWords "java/lang/System" "arraycopy" 5 + 11) ≤ R.locals) (hdg : decode cc pc = .ok (.invokestatic index, 3))
    (kk : ∀ (H1 : Heap) (locs1 : List Loc), va_P D cl (ws.set q0 (a, .inl (c0, N, .inr (.inl (va_cpy f f sp dp n))))) H1 → va_D A (ws.set q0 (a, .inl (c0, N, .inr (.inl (va_cpy f f sp dp n))))) → va_S A H0 H1 locs1 → W p l e R s m args below meth c H1 locs1 cells slots Q (F0 m (pc + 3) ls rest)) : W p l e R s m args below meth c H locs cells slots Q (F0 m pc ls (.int (nI n) :: .int (nI dp) :: .ref a :: .int (nI sp) :: .ref a :: rest)) := by
  have e1 := nI_clamp (n := sp) (by omega)
  have e2 := nI_clamp (n := dp) (by omega)
  have e3 := nI_clamp (n := n) (by omega)
  refine va_copyl hx hb hml hown hlink hnat hstat hini hK hP hD hS q0 q0 t0 t0 ha0 ha0 ht0 ht0 rfl (nI_pos (by omega)) (nI_pos (by omega)) (nI_pos (by omega)) (by rw [e1, e3]; exact h4) (by rw [e2, e3]; exact h5) (fun _ _ => rfl) hframes hlocals hdg ?_
  rw [e1, e2, e3]
  exact kk
/-- a call that changes nothing and gives nothing back -/
def xv_S (post : Prop) : Array Value → State → Outcome → State → Prop := fun _ st o t => o = .returned none ∧ post ∧ t.heap = st.heap
theorem xv_call {post : Prop} {a : Array Value} {st0 : List Value} (hr : CallRun p l e R s m args below meth c H locs cells slots 0 0 (F0 m pc ls st0) rest (xv_S post a) (fun _ => False))
    (kk : post → W p l e R s m args below meth c H locs cells slots Q (F0 m (pc + 3) ls rest)) : W p l e R s m args below meth c H locs cells slots Q (F0 m pc ls st0) := by
  intro T hT X
  obtain ⟨v, st₀, t, T', L, h0, X', hL, e1, ⟨hv, hp, hh⟩, st⟩ := hr T hT X
  cases hv
  obtain ⟨t2, a1, b1⟩ := kk hp T' (by rw [e1, hh, h0]) (Stand.forget X' (fun q h => (hL q h).elim))
  exact ⟨t2, st t2 a1, b1⟩
theorem xr_blind {As : List Value} {D : va_G} {cl : List vw_C} {ws : va_W} {tys : List (ClassId × FieldType)} : FrameBlind (va_Pc As (fun U => va_P D cl ws U.heap ∧ va_K D cl tys U)) := fun a U g mk q => by
  obtain ⟨q0, qP, qK⟩ := q
  exact ⟨q0, qP, va_K.moved (u := U) (U := U.calling g mk a) (Vm.Alike.refl U.vm) qK⟩
theorem xu_blind {As : List Value} {D : va_G} {cl : List vw_C} {ws : va_W} {tys : List (ClassId × FieldType)} {sz : Nat} : FrameBlind (va_Pc As (fun U => U.heap.size = sz ∧ va_P D cl ws U.heap ∧ va_K D cl tys U ∧ va_D (fun _ => True) ws)) := fun a U g mk q => by
  obtain ⟨q0, q1, qP, qK, qD⟩ := q
  exact ⟨q0, q1, qP, va_K.moved (u := U) (U := U.calling g mk a) (Vm.Alike.refl U.vm) qK, qD⟩
end XA

def un (r : Nat → Nat) (k v : Nat) : Nat → Nat := fun j => if j = k then v else r j
theorem un_nI (r : Nat → Nat) (k v : Nat) : upd (fun j => nI (r j)) k (nI v) = fun j => nI (un r k v j) := by
  funext j
  unfold un
  by_cases h : j = k
  · subst h; rw [pk_us, if_pos rfl]
  · rw [pk_un h, if_neg h]
theorem xs_i {a b c : Nat} (h : c ≤ a + b) : nI a + (nI b - nI c) = nI (a + b - c) := by
  rw [Int32.sub_eq_add_neg, ← Int32.add_assoc, ← Int32.sub_eq_add_neg, nI_add, pk_sub h]
theorem xk_sameL {D : va_G} {cl : List vw_C} {tys : List (ClassId × FieldType)} {U : State} {c1 c2 : ClassId} {t1 t2 : Nat} (hK : va_K D cl tys U) (h1 : tys[t1]? = some (c1, .long)) (h2 : tys[t2]? = some (c2, .long)) : c1 = c2 := by
  have e1 : U.vm.findClass ("[" ++ (FieldType.long).toString) = some c1 := (hK.2 t1 _ h1).2
  have e2 : U.vm.findClass ("[" ++ (FieldType.long).toString) = some c2 := (hK.2 t2 _ h2).2
  exact Option.some.inj (e1.symm.trans e2)
theorem xk_sameI {D : va_G} {cl : List vw_C} {tys : List (ClassId × FieldType)} {U : State} {c1 c2 : ClassId} {t1 t2 : Nat} (hK : va_K D cl tys U) (h1 : tys[t1]? = some (c1, .int)) (h2 : tys[t2]? = some (c2, .int)) : c1 = c2 := by
  have e1 : U.vm.findClass ("[" ++ (FieldType.int).toString) = some c1 := (hK.2 t1 _ h1).2
  have e2 : U.vm.findClass ("[" ++ (FieldType.int).toString) = some c2 := (hK.2 t2 _ h2).2
  exact Option.some.inj (e1.symm.trans e2)
theorem xm_min {a b : Nat} (ha : a < 2 ^ 31) (hb : b < 2 ^ 31) : (if nI b < nI a then nI b else nI a) = nI (min a b) := by
  by_cases h : b < a
  · rw [if_pos ((nI_ltI hb ha).mpr h), Nat.min_eq_right (by omega)]
  · rw [if_neg (fun q => h ((nI_ltI hb ha).mp q)), Nat.min_eq_left (by omega)]
theorem xm_max {a b : Nat} (ha : a < 2 ^ 31) (hb : b < 2 ^ 31) : (if nI a < nI b then nI b else nI a) = nI (max a b) := by
  by_cases h : a < b
  · rw [if_pos ((nI_ltI ha hb).mpr h), Nat.max_eq_right (by omega)]
  · rw [if_neg (fun q => h ((nI_ltI ha hb).mp q)), Nat.max_eq_left (by omega)]
end
section
/-! methods that throw and leave all that was there as it was: their contract, the throw itself, a call of such a method, its passing on, its catching -/
section XT
variable {p : Program} {l : Launch} {e : Env} {R : Room} {s : State} {m : MethodId} {args : Array Value} {below : List Frame} {meth : Method} {c : Code} {H : Heap} {locs : List Loc} {cells slots : Nat} {Q : State → Prop}
variable {cc : ByteArray} {pc : Nat} {ls : Array Slot} {rest : List Value}
/-- thrown: an object of the class E, one new cell of six slots, nothing else -/
def xt_Q (E : String) : Array Value → State → Outcome → State → Prop := fun _ st o t =>
  ∃ (q : Addr) (ce : Cell), o = .threw q ∧ t.heap[q]? = some ce ∧ ce.vm = .none ∧ st.vm.findClass E = some ce.cls ∧ st.heap.size ≤ t.heap.size ∧ (∀ z : Nat, z < st.heap.size → t.heap[z]? = st.heap[z]?) ∧ FrameEndT st o t [] 1 6
def xt_Met (l : Launch) (y : MethodName) (ws : List Cond) (rm : Room) (Pc : Array Value → State → Prop) (E : String) : Prop :=
  MetFree l y (headSpec ws rm) Pc (fun _ _ _ _ _ => True) (xt_Q E)
def xt_MQ (below : List Frame) (E : String) (a : Array Value) (s : State) : State → Prop := fun t => ∃ o, t.status = .running ∧ Ended t below o ∧ xt_Q E a s o t
theorem xt_kept {U : State} {k n : Nat} (h : s.sameButNew ({ U with vm := s.vm } : State) [] k n) : s.heap.size ≤ U.heap.size ∧ ∀ q : Nat, q < s.heap.size → U.heap[q]? = s.heap[q]? := by
  obtain ⟨-, h2, -, -, -, h6⟩ := h
  refine ⟨h2, fun q hq => ?_⟩
  obtain ⟨c9, e1, e2, -, e4⟩ := h6 q _ (Array.getElem?_eq_getElem hq)
  have hs : c9.slots = (s.heap[q]).slots := Array.ext_getElem? fun i => e4 i (fun hm => nomatch hm)
  have h9 : c9 = s.heap[q] := by
    rw [hs] at e2
    exact e2
  have e5 : U.heap[q]? = some c9 := e1
  rw [e5, h9, Array.getElem?_eq_getElem hq]
theorem xt_ofW {y : MethodName} {ws ws' : List Cond} {rm : Room} {Pc : Array Value → State → Prop} {E : String} {maxL : Nat} {ret : Option FieldType}
    (hy : plainName y.cls = true) (hw : ws = Cond.code y cc maxL ret :: ws')
    (body : ∀ p e s m args below meth c s₁, BodyLoose p l y (headSpec ws rm) cc maxL ret e s m args below meth c s₁ → c.maxLocals = maxL → (∀ z ∈ c.exceptionTable.toList, False) → Pc args s →
      W p l e (headSpec ws rm).room s m args below meth c s.heap [] 0 0 (xt_MQ below E args s) (entryFrame m args maxL)) : xt_Met l y ws rm Pc E := by
  refine MetFree.of_bodyS (code := cc) (maxLocals := maxL) (ret := ret) hy ?_ ?_
  · intro args s m h hn
    obtain ⟨meth, c, h1, h2, h3, h4, h5, h6, -, -⟩ := Cond.code_spec hn (atoms_spec (ws := ws) h _ (by rw [hw]; exact List.mem_cons_self))
    exact ⟨meth, c, h1, h2, h3, h4, h5, h6⟩
  · intro p e s m args below meth c s₁ B hml hP _
    have hh0 : s₁.heap = s.heap := by rw [B.state]; rfl
    have ht : ∀ z ∈ c.exceptionTable.toList, False := by
      obtain ⟨meth9, c9, h1, h2, -, -, -, -, h7, -⟩ := Cond.code_spec B.named (atoms_spec (ws := ws) B.pre _ (by rw [hw]; exact List.mem_cons_self))
      cases Option.some.inj (h1.symm.trans B.method)
      cases Option.some.inj (h2.symm.trans (Stand.of_body B).code)
      intro z hz
      rw [Array.isEmpty_iff.mp h7] at hz
      cases hz
    obtain ⟨t, a1, o, b1, b2, b3⟩ := body p e s m args below meth c s₁ B hml ht hP s₁ hh0 (Stand.of_body B)
    exact ⟨t, o, a1, b1, b2, b3⟩
/-- 'throw new E("text")' where nothing has been made or written yet -/
theorem xt_throw (hexec : p.tables.exec = Jvm.exec) (hb : c.code = cc) (hl : l.stackTraces = false) {own cls text : String} {names : List String} {ik is ic sa : Nat}
    (hown : s.vm.findClass own = some m.cls) (hcls : Bundle.fit cls = true) (hnames : ∀ n ∈ names, Bundle.fit n = true)
    (hk : (Cond.classLink own ik cls).before args s = true) (hini : (Cond.initialized cls).before args s = true) (hstr : vk_R own is text sa s) (hat : ∀ w ∈ Bundle.ownAtoms own ic cls names, w.before args s = true) (hsize : ls.size = c.maxLocals)
    (d0 : decode cc pc = .ok (.new ik, 3)) (d3 : decode cc (pc + 3) = .ok (.dup, 1)) (d4 : decode cc (pc + 4) = .ok (.ldc is, 2)) (d6 : decode cc (pc + 6) = .ok (.invokespecial ic, 3)) (d9 : decode cc (pc + 9) = .ok (.athrow, 1))
    (hout : ∀ z ∈ c.exceptionTable.toList, False) (hRframes : names.length + 3 < R.frames) (hRlocals : (rest.map fun v => v.category).sum + (13 * (names.length + 1) + 43) ≤ R.locals) (hRcells : 1 ≤ R.cells) (hRslots : 6 ≤ R.slots) (hlocks : meth.locks = false) :
    W p l e R s m args below meth c s.heap [] 0 0 (xt_MQ below cls args s) (F0 m pc ls rest) := by
  intro T hT X
  have htr : e.platform.stackTraces = false := (show e.platform.stackTraces = l.stackTraces by rw [X.admits.platform]).trans hl
  have hins : (Cond.instantiable cls 6).before args s = true := hat _ (by simp [Bundle.ownAtoms])
  obtain ⟨vm₁, cX, kX, hfX, hkX, -, -, X₁, st1⟩ := X.newCold hexec (own := own) (C := cls) (index := ik) (n := 6) hown hk hins hini
    (g := F0 m pc ls rest) rfl (by rw [hb]; exact d0) (by rw [Nat.zero_add]; exact hRcells) (by rw [Nat.zero_add]; exact hRslots)
  generalize hT1 : (T.setVm vm₁).pushCell { cls := cX, slots := kX.instanceTypes.map defaultValue, vm := .none } = T1 at X₁ st1
  have hcat : (Value.ref T.heap.size).category = 1 := rfl
  have hcellA : T1.heap[T.heap.size]? = some (freshCell cX kX) := by rw [← hT1]; exact State.heap_pushCell_size _ _
  have d3' : decode c.code (pc + 3) = .ok (.dup, 1) := by rw [hb]; exact d3
  have d4' : decode c.code (pc + 4) = .ok (.ldc is, 2) := by rw [hb]; exact d4
  obtain ⟨U, hsteps, hrun, hend, hW, hsame, ce, hce, hO⟩ := X₁.ctorThrowS hexec htr (own := own) (cls := cls) (names := names) (ic := ic) hown hcls hnames hat (fun x hx => nomatch hx) hfX hkX hcellA (by rw [hT]; exact Nat.le_refl _) (msg := .ref sa) rfl
    (g := { method := m, pc := pc + 6, locals := ls, stack := .ref sa :: .ref T.heap.size :: .ref T.heap.size :: rest, locked := none }) rfl hsize rfl rfl (rest := rest) rfl
    (by rw [hb]; exact d6) (by rw [hb]; exact d9) (fun z hz => (hout z hz).elim) hRframes (by simp only [List.map_cons, List.sum_cons, hcat]; omega) hlocks
  rw [Nat.zero_add, Nat.zero_add] at hsame
  obtain ⟨f1, f2⟩ := xt_kept hsame
  refine ⟨U, ?_, .threw T.heap.size, hrun, hend, T.heap.size, ce, rfl, hce, hO.vm, hO.cls, f1, f2, ⟨_, rfl⟩, hW, hsame⟩
  refine st1 _ ?_
  show Steps p.tables e below (T1.setTop { method := m, pc := pc + 3, locals := ls, stack := .ref T.heap.size :: rest, locked := none }) _
  jvm_step X₁.here [X₁.here.top, hexec, d3', Value.category]
  exact X₁.ldcString hexec (own := own) (text := text) (index := is) (a := sa) hown hstr.1 hstr.2
    (g := { method := m, pc := pc + 4, locals := ls, stack := .ref T.heap.size :: .ref T.heap.size :: rest, locked := none }) rfl d4' _ hsteps
/-- this method's frame, with q thrown over it -/
def xt_W (p : Program) (l : Launch) (e : Env) (R : Room) (s : State) (m : MethodId) (args : Array Value) (below : List Frame) (meth : Method) (c : Code) (H : Heap) (locs : List Loc) (cells slots : Nat) (Q : State → Prop) (g : JFrame) (q : Addr) : Prop :=
  ∀ T : State, T.heap = H → Stand p l e R s m args below meth c T locs cells slots → ∃ t, Steps p.tables e below ((T.setTop g).pushFrame (.throwing q)) t ∧ Q t
/-- nobody catches it here -/
theorem xt_out {E : String} {ce : Cell} {q : Addr} (hout : ∀ z ∈ c.exceptionTable.toList, False) (hlocks : meth.locks = false) (hcell : H[q]? = some ce) (hv : ce.vm = .none) (hcl : s.vm.findClass E = some ce.cls) :
    xt_W p l e R s m args below meth c H [] 1 6 (xt_MQ below E args s) (F0 m pc ls rest) q := by
  intro T hT X
  obtain ⟨st1, hrun, hend, hW, hsm⟩ := X.leaveThrown q (g := F0 m pc ls rest) rfl rfl rfl (fun z hz => (hout z hz).elim) hlocks
  obtain ⟨k1, k2⟩ := xt_kept hsm
  have h9 : (T.setFrames (.throwing q :: below)).heap[q]? = some ce := by
    show T.heap[q]? = some ce
    rw [hT]; exact hcell
  exact ⟨_, st1, .threw q, hrun, hend, q, ce, rfl, h9, hv, hcl, k1, k2, ⟨_, rfl⟩, hW, hsm⟩
/-- caught by the row x of this method's table; the rows ahead of it don't take it -/
theorem xt_catch {own name E : String} {ce : Cell} {q : Addr} (hown : s.vm.findClass own = some m.cls) (pre : List ExceptionTableEntry) (x : ExceptionTableEntry) (suf : List ExceptionTableEntry) (hsplit : c.exceptionTable.toList = pre ++ x :: suf)
    (hpass : ∀ z ∈ pre, z.catchType ≠ 0 ∧ ∃ nm : String, (Cond.classLink own z.catchType nm).before args s = true ∧ va_Nc E nm s) (hx : covers x pc = true) (h0 : x.catchType ≠ 0)
    (hlink : (Cond.classLink own x.catchType name).before args s = true) (hcast : (Cond.castable E name).before args s = true) (hcell : H[q]? = some ce) (hv : ce.vm = .none) (hcl : s.vm.findClass E = some ce.cls)
    (kk : W p l e R s m args below meth c H locs cells slots Q (F0 m x.handlerPc ls [.ref q])) : xt_W p l e R s m args below meth c H locs cells slots Q (F0 m pc ls rest) q := by
  intro T hT X
  have hpl : e.platform.magicAccessors = ({} : Platform).magicAccessors := by rw [X.admits.platform]
  obtain ⟨c3, c4, hc3, hc4, hasg⟩ := Cond.castable_spec hcast
  cases Option.some.inj (hc3.symm.trans hcl)
  obtain ⟨c5, hc5, hcl5⟩ := Cond.classLink_spec hown hlink e.platform hpl
  cases Option.some.inj (hc4.symm.trans hc5)
  obtain ⟨vm', X', st⟩ := X.thenCaughtThrough q (g := F0 m pc ls rest) rfl (Steps.refl _) (by rw [hT]; exact hcell) (by rw [hv]; rfl) (by obtain ⟨k9, h9, -⟩ := Vm.findClass_spec hcl; exact ⟨k9, h9⟩) pre x suf hsplit
    (fun z hz => by
      obtain ⟨hz0, nm, hl1, hn1⟩ := hpass z hz
      obtain ⟨c6, hc6, hcl6⟩ := Cond.classLink_spec hown hl1 e.platform hpl
      obtain ⟨a8, b8, h1, h2, h3⟩ := hn1
      cases Option.some.inj (h1.symm.trans hcl)
      cases Option.some.inj (h2.symm.trans hc6)
      exact Or.inr ⟨hz0, _, hcl6, h3⟩) hx (Or.inr ⟨h0, c4, hcl5, hasg⟩)
  obtain ⟨t, a1, b1⟩ := kk (T.setVm vm') hT X'
  exact ⟨t, st.trans a1, b1⟩
theorem xt_back {ws : List Cond} {rm : Room} {Pc : Array Value → State → Prop} {E : String} {bytes : ByteArray} {maxL : Nat} {ret : Option FieldType} {y : MethodName} {len W9 : Nat} {sargs : Array Value}
    (hM : xt_Met l y ws rm Pc E) (hblind : FrameBlind Pc) (hrc : rm.cells = 1) (hrs : rm.slots = 6) (hframes : rm.frames + 1 ≤ R.frames) (hlocals : W9 + (maxL + 11) + rm.locals ≤ R.locals)
    (hws : ∀ w ∈ ws, ∀ a' U, s.WarmedH U.vm → w.before a' U = true) (hcode : Cond.code y bytes maxL ret ∈ ws) (hinit : ∀ a' U, s.WarmedH U.vm → (Cond.initialized y.cls).before a' U = true) :
    BackT l R p e below s sargs y len W9 (PreOf R 1 6 Pc) (fun A _ q B => ∃ ce : Cell, B.U.heap[q]? = some ce ∧ ce.vm = .none ∧ A.U.vm.findClass E = some ce.cls ∧ A.U.heap.size ≤ B.U.heap.size ∧ (∀ z : Nat, z < A.U.heap.size → B.U.heap[z]? = A.U.heap[z]?) ∧ B.locs = A.locs ∧ B.cells = A.cells + 1 ∧ B.slots = A.slots + 6) := by
  refine BackT.of_free (S := headSpec ws rm) (P := Pc) (K := fun _ _ _ _ _ => True) (Q := xt_Q E) (bytes := bytes) (maxL := maxL) (ret := ret)
    (E := fun _ _ _ _ L k n => L = [] ∧ k = 1 ∧ n = 6) hM hframes hlocals ?_ ?_ (fun _ _ _ _ _ _ _ _ _ => trivial) ?_ ?_
  · intro m meth c A a X hp
    exact ⟨atoms_intro fun w hw => hws w hw _ _ X.warmed, hws _ hcode _ _ X.warmed, hinit _ _ X.warmed, by rw [show (headSpec ws rm).room.cells = 1 from hrc]; exact hp.1, by rw [show (headSpec ws rm).room.slots = 6 from hrs]; exact hp.2.1⟩
  · intro m meth c A a g mk X hp
    exact hblind _ _ _ _ hp.2.2
  · intro a st o t h
    obtain ⟨q, ce, h1, h2, h3, h4, h5, h6, hF⟩ := h
    exact ⟨[], 1, 6, hF, rfl, rfl, rfl⟩
  · intro m meth c A a g mk v t L k n X hp hq hF h9
    obtain ⟨e0, e1, e2⟩ := h9
    subst e0; subst e1; subst e2
    obtain ⟨q, ce, h1, h2, h3, h4, h5, h6, -⟩ := hq
    cases h1
    exact ⟨ce, h2, h3, h4, h5, h6, List.append_nil _, rfl, rfl⟩
/-- a call by name of a method that throws -/
theorem xt_callV {own C : String} {index n : Nat} {y : MethodName} {bytes : ByteArray} {maxL nL : Nat} {ret : Option FieldType} {ws Ts : List Cond} {rm : Room} {Pc : Array Value → State → Prop} {E : String} {b : Addr} {As st0 : List Value}
    (S : CallFix p m c cc nL s args Ts own) (hM : xt_Met l y ws rm Pc E) (cw : CallW R s args own C index y bytes maxL ret ws rm 1 6 n) (hp : PreV s H C b Pc As)
    (hn : As.length = n) (hsize : ls.size = nL) (hst : st0 = As.reverse ++ .ref b :: rest) (hW : 2 * (F0 m pc ls rest).monitorRoom + (rest.map fun v => v.category).sum ≤ 8) (hdg : decode cc pc = .ok (.invokevirtual index, 3)) (hf : cells + 1 ≤ R.cells ∧ slots + 6 ≤ R.slots)
    (kk : ∀ (q : Addr) (ce : Cell) (H1 : Heap), H1[q]? = some ce → ce.vm = .none → s.vm.findClass E = some ce.cls → H.size ≤ H1.size → (∀ z : Nat, z < H.size → H1[z]? = H[z]?) → xt_W p l e R s m args below meth c H1 locs (cells + 1) (slots + 6) Q (F0 m pc ls rest) q) :
    W p l e R s m args below meth c H locs cells slots Q (F0 m pc ls st0) := by
  obtain ⟨⟨hrc, hrs, hfr, hlo, hws, hcw, hcode, hini, hy, hlen, hl⟩, hin, hse⟩ := cw
  have hK := xt_back (p := p) (e := e) (below := below) (sargs := args) (len := 3) (W9 := 8) (bytes := bytes) (maxL := maxL) (ret := ret) hM hp.1 hrc hrs hfr hlo hws hcw (fun a' U hW => word_at hW (Or.inl (by first | rfl | simp [Cond.onTables, Cond.keeps, Cond.steady])) hini)
  obtain ⟨hx, hb, hml, ho, -⟩ := S
  obtain ⟨-, ⟨cellB, hcB, hoB, hclB⟩, hPc⟩ := hp
  intro T hT X
  obtain ⟨mk, methM, hnamed, hmethM, hstM, habM⟩ := Cond.instanceMethod_spec hin
  obtain ⟨methM', cM, hmethM', -, -, -, -, -, -, hsigM⟩ := Cond.code_spec hnamed hcode
  cases hmethM.symm.trans hmethM'
  obtain ⟨c9, r9, m9, q1, q2, q3, q4, kP, hkP, hkPi⟩ := Cond.selects_spec hse
  cases hclB.symm.trans q1
  cases (State.methodFound?_of_named hnamed hy).symm.trans q2
  cases hnamed.symm.trans q3
  have hselP : selectMethod e.platform s.vm cellB.cls mk = .method mk := by rw [Launch.admits_selectMethod X.admits]; exact q4
  obtain ⟨vm₁, X₁, hstep₁⟩ := X.invokevirtual hx ho hl hnamed hmethM hstM hkP hkPi hy (a := b) (cell := cellB) (by rw [hT]; exact hcB)
    (fun z h => by rw [h] at hoB; cases hoB) hselP hmethM habM hkP hkPi (g := F0 m pc ls st0) rfl (argsL := As) (rest := rest) (hn.trans (hlen _ hsigM)) hst (by rw [hb]; exact hdg)
  obtain ⟨q, ⟨U', l2, k2, n2⟩, X', ⟨ce, h1, h2, h3, h4, h5, e1, e2, e3⟩, hsteps⟩ := hK m meth c ⟨T.setVm vm₁, locs, cells, slots⟩ (F0 m pc ls rest) (.invokevirtual index) mk (Value.ref b :: As).toArray X₁ rfl (hsize.trans hml.symm) (by rw [hb]; exact hdg) hW (X₁.named hnamed) ⟨hf.1, hf.2, hPc (T.setVm vm₁) hT X₁.warmed⟩
  dsimp only [Pt.U, Pt.locs, Pt.cells, Pt.slots] at X' h1 h3 h4 h5 e1 e2 e3 hsteps
  subst e1; subst e2; subst e3
  have h3' : s.vm.findClass E = some ce.cls := by
    have h9 : vm₁.findClass E = some ce.cls := h3
    rw [show vm₁.findClass E = s.vm.findClass E from X₁.warmed.alike.findClass ..] at h9
    exact h9
  have hT' : (T.setVm vm₁).heap = H := hT
  rw [hT'] at h4 h5
  obtain ⟨t, a1, b1⟩ := kk q ce U'.heap h1 h2 h3' h4 h5 U' rfl X'
  exact ⟨t, hstep₁ _ fun acts => by rw [doInvoke_state]; exact hsteps.trans a1, b1⟩
/-- a static call of a method with handlers of its own, that returns -/
theorem xt_runSW {own : String} {index n : Nat} {y : MethodName} {bytes : ByteArray} {maxL nL mc ms : Nat} {ret : Option FieldType} {hh : List (Nat × Nat × Nat × Nat)} {ws ws' Ts : List Cond} {rm : Room} {Pc : Array Value → State → Prop} {Qc : Array Value → State → Outcome → State → Prop} {free : Addr → Prop} {As : List Value} {g : JFrame}
    (S : CallFix p m c cc nL s args Ts own) (hM : Met l y ws rm Pc Qc mc ms free) (hG : GoodIn Ts (va_wsS own index y ws)) (hw : ws = Cond.codeWith y bytes maxL ret hh :: ws') (hrc : rm.cells = mc) (hrs : rm.slots = ms)
    (hd : y.cls ≠ "java/lang/invoke/MethodHandle" ∧ y.cls ≠ "java/lang/invoke/VarHandle" ∧ (parseMethodDescriptor y.desc).map (fun d => d.parameters.length) = some n) (hR : rm.frames + 1 ≤ R.frames ∧ 8 + (maxL + 11) + rm.locals ≤ R.locals) (hp : PreS s H Pc As)
    (hg : g.method = m) (hn : As.length = n) (hsize : g.locals.size = nL) (hstack : g.stack = As.reverse ++ rest) (hW : 2 * g.monitorRoom + (rest.map fun v => v.category).sum ≤ 8) (hdg : decode cc g.pc = .ok (.invokestatic index, 3)) (hf : cells + mc ≤ R.cells ∧ slots + ms ≤ R.slots) :
    va_Run p l e R s m args below meth c H locs cells slots mc ms g rest (Qc As.toArray) free := by
  obtain ⟨hx, hb, hml, ho, ht⟩ := S
  have ok : ∀ w ∈ va_wsS own index y ws, w.before args s = true := fun w h => ht w (hG w h).1
  have hG2 : GoodIn Ts ws := fun w h => hG w (by unfold va_wsS; exact List.mem_append_right _ h)
  have hc : Cond.codeWith y bytes maxL ret hh ∈ ws := by rw [hw]; exact List.mem_cons_self
  have hini : (Cond.initialized y.cls).before args s = true := ok _ (by simp [va_wsS])
  have hcode : (Cond.codeWith y bytes maxL ret hh).before args s = true := ht _ (hG2 _ hc).1
  have hK : Back l R p e below s args y 3 8 (PreOf R mc ms Pc) (PostOf Qc mc ms free) := va_backW (hh := hh) (bytes := bytes) (maxL := maxL) (ret := ret) hM hp.1 hrc hrs hR.1 hR.2 (pay_in ht hG2) hc (fun a' U hW => word_at hW (Or.inl (by first | rfl | simp [Cond.onTables, Cond.keeps, Cond.steady])) hini)
  intro T hT X
  obtain ⟨mk, methM, cM, hnamed, hmethM, -, -, -, -, -, -, hsigM⟩ := Cond.codeWith_spec hcode
  have hstatic : methM.isStatic = true := Cond.static_spec hnamed hmethM (ok _ (by simp [va_wsS]))
  obtain ⟨kP, hkP, -⟩ := className_of_methodNamed hnamed
  have hinitP : kP.init = .initialized := Cond.initialized_spec (findClass_of_methodNamed hnamed) hkP hini
  have hlen : As.length = methM.sig.parameters.length := by
    have h2 := hd.2.2
    rw [hsigM] at h2
    exact hn.trans (Option.some.inj h2).symm
  obtain ⟨vm₁, X₁, hstep₁⟩ := X.invokestatic hx ho (ok (.methodLink own index y) (by simp [va_wsS])) hnamed hmethM hstatic hkP hinitP ⟨hd.1, hd.2.1⟩ (g := g) hg (argsL := As) (rest := rest) hlen hstack (by rw [hb]; exact hdg)
  obtain ⟨v, ⟨U', l2, k2, n2⟩, X', ⟨g', mk', t, L, e1, e2, hq, h1, hL, h2, h3⟩, hsteps⟩ := hK m meth c ⟨T.setVm vm₁, locs, cells, slots⟩ { g with stack := rest } (.invokestatic index) mk As.toArray X₁ hg (hsize.trans hml.symm) (by rw [hb]; exact hdg) hW (X₁.named hnamed) ⟨hf.1, hf.2, hp.2 (T.setVm vm₁) hT X₁.warmed⟩
  dsimp only [Pt.U, Pt.locs, Pt.cells, Pt.slots] at X' e1 e2 h1 h2 h3 hsteps
  subst h1; subst h2; subst h3
  exact ⟨v, (T.setVm vm₁).calling g' mk' As.toArray, t, U', L, hT, X', hL, e1, e2, hq, fun target h => hstep₁ _ fun acts => by rw [doInvoke_state]; exact hsteps.trans h⟩
end XT
end
section
/-! the class's state: its eight cells; what holds of its numbers; what its methods compute -/
abbrev wr (x a1 a2 a3 a4 a5 a6 a7 : Nat) (cI cJ : ClassId) (nD nR : Nat) (dv : Nat → Int64) (r : Nat → Nat) (cap : Nat) (ti va ev ed : Nat → Int64) (ec : Nat) (ad : Nat → Int32) (ac : Nat) (now : Int64) : va_W :=
  [(x, .inr (0, [.int (nI nD), .int (nI nR), .ref a1, .ref a2, .ref a3, .ref a4, .ref a5, .ref a6, .int (nI ec), .ref a7, .int (nI ac), .long now])), (a1, .inl (cJ, nD, .inr (.inl dv))), (a2, .inl (cI, nD + 1, .inl (fun j => nI (r j)))), (a3, .inl (cJ, cap, .inr (.inl ti))), (a4, .inl (cJ, cap, .inr (.inl va))), (a5, .inl (cJ, 16, .inr (.inl ev))), (a6, .inl (cJ, 16, .inr (.inl ed))), (a7, .inl (cI, nD, .inl ad))]
/-- the numbers of an object that is in order: drivers, room, places, elements, active ones, where the rows begin -/
def wf_R (nD nR cap ec ac : Nat) (r : Nat → Nat) : Prop := 1 ≤ nD ∧ nD ≤ 512 ∧ 1 ≤ nR ∧ nR ≤ 8192 ∧ cap ≤ 8192 ∧ r nD ≤ cap ∧ r nD ≤ nR ∧ r 0 = 0 ∧ (∀ j, j < nD → r j ≤ r (j + 1)) ∧ ec ≤ 16 ∧ ac ≤ nD
theorem wf_mono {nD : Nat} {r : Nat → Nat} (h : ∀ j, j < nD → r j ≤ r (j + 1)) : ∀ n i : Nat, i + n ≤ nD → r i ≤ r (i + n) := by
  intro n
  induction n with
  | zero => intro i _; exact Nat.le_refl _
  | succ n ih => intro i hi; exact Nat.le_trans (ih i (by omega)) (h (i + n) (by omega))
theorem wf_le {nD : Nat} {r : Nat → Nat} (h : ∀ j, j < nD → r j ≤ r (j + 1)) {i j : Nat} (hij : i ≤ j) (hj : j ≤ nD) : r i ≤ r j := by
  have q := wf_mono h (j - i) i (by omega)
  rw [show i + (j - i) = j by omega] at q
  exact q
/-- the first of n places from a on whose time is behind t; else the place behind them -/
def wf_fb (ti : Nat → Int64) (t : Int64) : Nat → Nat → Nat
  | 0, a => a
  | n + 1, a => if ti a ≤ t then wf_fb ti t n (a + 1) else a
/-- from place a + n down to a: behind the last one that holds another value -/
def wf_ss (va : Nat → Int64) (v : Int64) (a : Nat) : Nat → Nat
  | 0 => a
  | n + 1 => if va (a + n) = v then wf_ss va v a n else a + n + 1
theorem wf_fb_le (ti : Nat → Int64) (t : Int64) : ∀ n a : Nat, a ≤ wf_fb ti t n a ∧ wf_fb ti t n a ≤ a + n := by
  intro n
  induction n with
  | zero => intro a; exact ⟨Nat.le_refl a, Nat.le_refl a⟩
  | succ n ih =>
    intro a
    unfold wf_fb
    split
    · have h := ih (a + 1)
      omega
    · omega
theorem wf_ss_le (va : Nat → Int64) (v : Int64) (a : Nat) : ∀ n : Nat, a ≤ wf_ss va v a n ∧ wf_ss va v a n ≤ a + n := by
  intro n
  induction n with
  | zero => exact ⟨Nat.le_refl a, Nat.le_refl a⟩
  | succ n ih =>
    unfold wf_ss
    split
    · omega
    · omega
def wf_act (ad : Nat → Int32) (ac : Nat) (i : Int32) : Int32 := if ¬ i < 0 ∧ ¬ nI ac ≤ i then ad i.toNatClampNeg else -1
def wf_lim (mo : Int32) (f t : Int64) : Int64 := if mo = 0 then f else if mo = 2 then t else 0
def wf_lg (mo : Int32) (f t : Int64) : Prop := (mo = 2 ∧ ¬ t < 0 ∧ ¬ f < t) ∨ mo = 0 ∨ mo = 1
/-- the delays rise from b on, and no time is above 2^60 -/
def wf_dg (ed : Nat → Int64) (now : Int64) : Nat → Nat → Int64 → Prop
  | 0, _, _ => True
  | n + 1, i, b => ¬ ed i ≤ b ∧ now + ed i ≤ 1152921504606846976 ∧ wf_dg ed now n (i + 1) (ed i)
/-- the least first time of n rows from d on, and le -/
def wf_nx (r : Nat → Nat) (ti : Nat → Int64) : Nat → Nat → Int64 → Int64
  | 0, _, le => le
  | n + 1, d, le => wf_nx r ti n (d + 1) (if r (d + 1) - r d = 0 then le else if le = -1 then ti (r d) else if ti (r d) < le then ti (r d) else le)
/-! what the throws ask of the start -/
def xt_rt : List String := ["java/lang/RuntimeException", "java/lang/Exception"]
def xt_heap : List Cond := [.laysStatic Bundle.tN "UNASSIGNED_STACK" Bundle.steD, .laysStatic Bundle.tN "SUPPRESSED_SENTINEL" Bundle.listD, .isRef (.static Bundle.tN "UNASSIGNED_STACK" Bundle.steD), .isRef (.static Bundle.tN "SUPPRESSED_SENTINEL" Bundle.listD)]
def xt_lk : List Cond := [.classLink RX0 47 "java/lang/IllegalArgumentException", .classLink RX0 57 "java/lang/IllegalStateException", .classLink RX0 120 "java/lang/IndexOutOfBoundsException", .initialized "java/lang/IllegalArgumentException", .initialized "java/lang/IllegalStateException", .initialized "java/lang/IndexOutOfBoundsException"]
def xt_all : List Cond := xt_lk ++ (Bundle.ownAtoms RX0 51 "java/lang/IllegalArgumentException" xt_rt ++ (Bundle.ownAtoms RX0 61 "java/lang/IllegalStateException" xt_rt ++ Bundle.ownAtoms RX0 124 "java/lang/IndexOutOfBoundsException" xt_rt))
theorem xt_in1 : ∀ w ∈ Bundle.ownAtoms RX0 51 "java/lang/IllegalArgumentException" xt_rt, w ∈ xt_all := fun _ h => List.mem_append_right _ (List.mem_append_left _ h)
theorem xt_in2 : ∀ w ∈ Bundle.ownAtoms RX0 61 "java/lang/IllegalStateException" xt_rt, w ∈ xt_all := fun _ h => List.mem_append_right _ (List.mem_append_right _ (List.mem_append_left _ h))
theorem xt_in3 : ∀ w ∈ Bundle.ownAtoms RX0 124 "java/lang/IndexOutOfBoundsException" xt_rt, w ∈ xt_all := fun _ h => List.mem_append_right _ (List.mem_append_right _ (List.mem_append_right _ h))
def xt_strs : List (Nat × String) := [(49, "the delay is below 0 or above 2^60"), (59, "there are 16 elements"), (66, "no element is laid down"), (76, "the mode, the limit or the delays are wrong"), (93, "there is no room for so many transactions"), (110, "the time is before NOW or above 2^60"), (122, "there is no such transaction"), (125, "the time is before NOW"), (127, "there is no such driver")]
def xt_ok (U : State) : Prop := (∀ w ∈ xt_all, w.before #[] U = true) ∧ ∀ q ∈ xt_strs, ∃ a : Nat, vk_R RX0 q.1 q.2 a U
set_option maxRecDepth 20000 in
theorem xt_kind : ∀ w ∈ xt_all, (w.onTables && w.keepsCast) = true ∨ w ∈ xt_heap := by decide +kernel
theorem xt_w {args a' : Array Value} {s U : State} {w : Cond} (hW : s.WarmedH U.vm) (ht : w.onTables = true) (hk : w.keepsCast = true) (h : w.before args s = true) : w.before a' U = true := by
  have h1 := Cond.before_shiftedCast (State.Shifted.of_warmed hW) w hk h
  rw [Cond.onTables_vm (A' := a') (U' := U) U.vm w ht] at h1
  exact h1
theorem xt_lays {C n d : String} {args a' : Array Value} {s U : State} (hvm : s.vm.Alike U.vm) (hh : ∀ q : Nat, q < s.heap.size → U.heap[q]? = s.heap[q]?) (h : (Cond.laysStatic C n d).before args s = true) : (Cond.laysStatic C n d).before a' U = true := by
  obtain ⟨c, k, i, f, a, cell, h1, h2, h3, h4, h5, h6, h7, h8, h9⟩ := Cond.laysStatic_spec h
  obtain ⟨k', hi', he⟩ := State.fieldFound?_setVm hvm h2
  show (Cond.laysStatic C n d).holds a' U none U [] = true
  exact Cond.laysStatic_of (by rw [hvm.findClass]; exact h1) hi' h3 (by rw [he]; exact h4) (by rw [hh a (Array.getElem?_eq_some_iff.mp h5).1]; exact h5) h6 h7 h8 (by rw [he]; exact h9)
theorem xt_ref {C n d : String} {args a' : Array Value} {s U : State} (hvm : s.vm.Alike U.vm) (hh : ∀ q : Nat, q < s.heap.size → U.heap[q]? = s.heap[q]?) (hl : (Cond.laysStatic C n d).before args s = true) (hini : (Cond.initialized C).before args s = true) (h : (Cond.isRef (.static C n d)).before args s = true) : (Cond.isRef (.static C n d)).before a' U = true := by
  have z : va_Zq C n d (fun _ => False) U U.heap := va_Zq.moved hvm ((va_Zqof (A := fun _ => False) hl hini h (fun _ _ => id)).kept (fun q hq _ => hh q hq))
  have go : ∀ v : Value, v.isRef = true → va_Z C n d v (fun _ => False) U U.heap → (Cond.isRef (.static C n d)).before a' U = true := by
    intro v hv z
    obtain ⟨cf, kf, fi, f, a, cell, h1, h2, h3, h4, h5, h6, h7, -⟩ := z
    have he : (Term.static C n d).eval a' U none [] U = some v := by
      simp [Term.eval, State.fieldNamed?, h1, h2, h4, h5, h6, h7]
    simp only [Cond.before, Cond.holds, Cond.value, he]
    cases v <;> simp_all [Value.isRef]
  rcases z with z | ⟨t, z⟩
  · exact go _ rfl z
  · exact go _ rfl z
theorem xt_mv {args a' : Array Value} {s U : State} (hW : s.WarmedH U.vm) (hh : ∀ q : Nat, q < s.heap.size → U.heap[q]? = s.heap[q]?) (h : ∀ w ∈ xt_all, w.before args s = true) : ∀ w ∈ xt_all, w.before a' U = true := by
  intro w hw
  have hl1 : (Cond.laysStatic Bundle.tN "UNASSIGNED_STACK" Bundle.steD).before args s = true := h _ (xt_in1 _ (by simp [Bundle.ownAtoms, Bundle.throwableAtoms]))
  have hl2 : (Cond.laysStatic Bundle.tN "SUPPRESSED_SENTINEL" Bundle.listD).before args s = true := h _ (xt_in1 _ (by simp [Bundle.ownAtoms, Bundle.throwableAtoms]))
  have hini : (Cond.initialized Bundle.tN).before args s = true := h _ (xt_in1 _ (by simp [Bundle.ownAtoms, Bundle.throwableAtoms]))
  rcases xt_kind w hw with hk | hk
  · rw [Bool.and_eq_true] at hk
    exact xt_w hW hk.1 hk.2 (h w hw)
  · have h0 := h w hw
    simp only [xt_heap, List.mem_cons, List.not_mem_nil, or_false] at hk
    rcases hk with rfl | rfl | rfl | rfl
    · exact xt_lays hW.alike hh hl1
    · exact xt_lays hW.alike hh hl2
    · exact xt_ref hW.alike hh hl1 hini h0
    · exact xt_ref hW.alike hh hl2 hini h0
theorem xt_move {s U : State} (hW : s.WarmedH U.vm) (hh : ∀ q : Nat, q < s.heap.size → U.heap[q]? = s.heap[q]?) (h : xt_ok s) : xt_ok U :=
  ⟨xt_mv hW hh h.1, fun q hq => by obtain ⟨a, ha⟩ := h.2 q hq; exact ⟨a, vk_R.warm hW ha⟩⟩
theorem xt_at {args : Array Value} {s : State} (h : xt_ok s) : ∀ w ∈ xt_all, w.before args s = true := xt_mv (State.WarmedH.refl s) (fun _ _ => rfl) h.1
theorem xk_blind {As : List Value} {D : va_G} {cl : List vw_C} {ws : va_W} {tys : List (ClassId × FieldType)} : FrameBlind (va_Pc As (fun U => va_P D cl ws U.heap ∧ va_K D cl tys U ∧ xt_ok U)) := fun a U g mk q => by
  obtain ⟨q0, qP, qK, qO⟩ := q
  exact ⟨q0, qP, va_K.moved (u := U) (U := U.calling g mk a) (Vm.Alike.refl U.vm) qK, xt_move (s := U) (U := U.calling g mk a) (State.WarmedH.refl U) (fun _ _ => rfl) qO⟩
/-- n values g 0, g 1 .. from place f on -/
def wf_pt (ti : Nat → Int64) (f : Nat) (g : Nat → Int64) (n : Nat) : Nat → Int64 := fun j => if f ≤ j ∧ j < f + n then g (j - f) else ti j
theorem wf_pt_0 (ti : Nat → Int64) (f : Nat) (g : Nat → Int64) : wf_pt ti f g 0 = ti := by
  funext j
  exact if_neg (by omega)
theorem wf_pt_s (ti : Nat → Int64) (f : Nat) (g : Nat → Int64) (n : Nat) : vp_updL (wf_pt ti f g n) (f + n) (g n) = wf_pt ti f g (n + 1) := by
  funext j
  unfold vp_updL wf_pt
  by_cases h : j = f + n
  · subst h
    rw [if_pos rfl, if_pos (by omega), show f + n - f = n by omega]
  · rw [if_neg h]
    by_cases h2 : f ≤ j ∧ j < f + n
    · rw [if_pos h2, if_pos (by omega)]
    · rw [if_neg h2, if_neg (by omega)]
/-- the rows behind d begin elsewhere: those up to k, by what lies between o and e -/
def wf_sh (r : Nat → Nat) (d e o k : Nat) : Nat → Nat := fun j => if d < j ∧ j < k then r j + e - o else r j
theorem wf_sh_0 (r : Nat → Nat) (d e o : Nat) : wf_sh r d e o (d + 1) = r := by
  funext j
  exact if_neg (by omega)
theorem wf_sh_s (r : Nat → Nat) (d e o k : Nat) (h : d < k) : un (wf_sh r d e o k) k (r k + e - o) = wf_sh r d e o (k + 1) := by
  funext j
  unfold un wf_sh
  by_cases q : j = k
  · subst q
    rw [if_pos rfl, if_pos (by omega)]
  · rw [if_neg q]
    by_cases q2 : d < j ∧ j < k
    · rw [if_pos q2, if_pos (by omega)]
    · rw [if_neg q2, if_neg (by omega)]
theorem wf_sh_at (r : Nat → Nat) (d e o k : Nat) : wf_sh r d e o k k = r k := if_neg (by omega)
end
section
theorem dX0_init_0 : decode cX0_init 0 = .ok (.aload_n 0, 1) := by decide +kernel
theorem dX0_init_1 : decode cX0_init 1 = .ok (.invokespecial 1, 3) := by decide +kernel
theorem dX0_init_4 : decode cX0_init 4 = .ok (.aload_n 0, 1) := by decide +kernel
theorem dX0_init_5 : decode cX0_init 5 = .ok (.iload_n 1, 1) := by decide +kernel
theorem dX0_init_6 : decode cX0_init 6 = .ok (.iconst 1, 1) := by decide +kernel
theorem dX0_init_7 : decode cX0_init 7 = .ok (.if_icmp .lt 14, 3) := by decide +kernel
theorem dX0_init_10 : decode cX0_init 10 = .ok (.iload_n 1, 1) := by decide +kernel
theorem dX0_init_11 : decode cX0_init 11 = .ok (.sipush 512, 3) := by decide +kernel
theorem dX0_init_14 : decode cX0_init 14 = .ok (.if_icmp .gt 7, 3) := by decide +kernel
theorem dX0_init_17 : decode cX0_init 17 = .ok (.iload_n 1, 1) := by decide +kernel
theorem dX0_init_18 : decode cX0_init 18 = .ok (.goto 5, 3) := by decide +kernel
theorem dX0_init_21 : decode cX0_init 21 = .ok (.bipush 64, 2) := by decide +kernel
theorem dX0_init_23 : decode cX0_init 23 = .ok (.putfield 9, 3) := by decide +kernel
theorem dX0_init_26 : decode cX0_init 26 = .ok (.aload_n 0, 1) := by decide +kernel
theorem dX0_init_27 : decode cX0_init 27 = .ok (.iload_n 2, 1) := by decide +kernel
theorem dX0_init_28 : decode cX0_init 28 = .ok (.iconst 1, 1) := by decide +kernel
theorem dX0_init_29 : decode cX0_init 29 = .ok (.if_icmp .lt 14, 3) := by decide +kernel
theorem dX0_init_32 : decode cX0_init 32 = .ok (.iload_n 2, 1) := by decide +kernel
theorem dX0_init_33 : decode cX0_init 33 = .ok (.sipush 8192, 3) := by decide +kernel
theorem dX0_init_36 : decode cX0_init 36 = .ok (.if_icmp .gt 7, 3) := by decide +kernel
theorem dX0_init_39 : decode cX0_init 39 = .ok (.iload_n 2, 1) := by decide +kernel
theorem dX0_init_40 : decode cX0_init 40 = .ok (.goto 6, 3) := by decide +kernel
theorem dX0_init_43 : decode cX0_init 43 = .ok (.sipush 1024, 3) := by decide +kernel
theorem dX0_init_46 : decode cX0_init 46 = .ok (.putfield 13, 3) := by decide +kernel
theorem dX0_init_49 : decode cX0_init 49 = .ok (.aload_n 0, 1) := by decide +kernel
theorem dX0_init_50 : decode cX0_init 50 = .ok (.aload_n 0, 1) := by decide +kernel
theorem dX0_init_51 : decode cX0_init 51 = .ok (.getfield 9, 3) := by decide +kernel
theorem dX0_init_54 : decode cX0_init 54 = .ok (.newarray .long, 2) := by decide +kernel
theorem dX0_init_56 : decode cX0_init 56 = .ok (.putfield 16, 3) := by decide +kernel
theorem dX0_init_59 : decode cX0_init 59 = .ok (.aload_n 0, 1) := by decide +kernel
theorem dX0_init_60 : decode cX0_init 60 = .ok (.aload_n 0, 1) := by decide +kernel
theorem dX0_init_61 : decode cX0_init 61 = .ok (.getfield 9, 3) := by decide +kernel
theorem dX0_init_64 : decode cX0_init 64 = .ok (.iconst 1, 1) := by decide +kernel
theorem dX0_init_65 : decode cX0_init 65 = .ok (.iadd, 1) := by decide +kernel
theorem dX0_init_66 : decode cX0_init 66 = .ok (.newarray .int, 2) := by decide +kernel
theorem dX0_init_68 : decode cX0_init 68 = .ok (.putfield 20, 3) := by decide +kernel
theorem dX0_init_71 : decode cX0_init 71 = .ok (.aload_n 0, 1) := by decide +kernel
theorem dX0_init_72 : decode cX0_init 72 = .ok (.aload_n 0, 1) := by decide +kernel
theorem dX0_init_73 : decode cX0_init 73 = .ok (.getfield 9, 3) := by decide +kernel
theorem dX0_init_76 : decode cX0_init 76 = .ok (.newarray .int, 2) := by decide +kernel
theorem dX0_init_78 : decode cX0_init 78 = .ok (.putfield 24, 3) := by decide +kernel
theorem dX0_init_81 : decode cX0_init 81 = .ok (.aload_n 0, 1) := by decide +kernel
theorem dX0_init_82 : decode cX0_init 82 = .ok (.getfield 13, 3) := by decide +kernel
theorem dX0_init_85 : decode cX0_init 85 = .ok (.bipush 64, 2) := by decide +kernel
theorem dX0_init_87 : decode cX0_init 87 = .ok (.invokestatic 27, 3) := by decide +kernel
theorem dX0_init_90 : decode cX0_init 90 = .ok (.istore_n 3, 1) := by decide +kernel
theorem dX0_init_91 : decode cX0_init 91 = .ok (.aload_n 0, 1) := by decide +kernel
theorem dX0_init_92 : decode cX0_init 92 = .ok (.iload_n 3, 1) := by decide +kernel
theorem dX0_init_93 : decode cX0_init 93 = .ok (.newarray .long, 2) := by decide +kernel
theorem dX0_init_95 : decode cX0_init 95 = .ok (.putfield 33, 3) := by decide +kernel
theorem dX0_init_98 : decode cX0_init 98 = .ok (.aload_n 0, 1) := by decide +kernel
theorem dX0_init_99 : decode cX0_init 99 = .ok (.iload_n 3, 1) := by decide +kernel
theorem dX0_init_100 : decode cX0_init 100 = .ok (.newarray .long, 2) := by decide +kernel
theorem dX0_init_102 : decode cX0_init 102 = .ok (.putfield 36, 3) := by decide +kernel
theorem dX0_init_105 : decode cX0_init 105 = .ok (.aload_n 0, 1) := by decide +kernel
theorem dX0_init_106 : decode cX0_init 106 = .ok (.bipush 16, 2) := by decide +kernel
theorem dX0_init_108 : decode cX0_init 108 = .ok (.newarray .long, 2) := by decide +kernel
theorem dX0_init_110 : decode cX0_init 110 = .ok (.putfield 39, 3) := by decide +kernel
theorem dX0_init_113 : decode cX0_init 113 = .ok (.aload_n 0, 1) := by decide +kernel
theorem dX0_init_114 : decode cX0_init 114 = .ok (.bipush 16, 2) := by decide +kernel
theorem dX0_init_116 : decode cX0_init 116 = .ok (.newarray .long, 2) := by decide +kernel
theorem dX0_init_118 : decode cX0_init 118 = .ok (.putfield 42, 3) := by decide +kernel
theorem dX0_init_121 : decode cX0_init 121 = .ok (.return_, 1) := by decide +kernel
theorem dX0_drop_0 : decode cX0_drop 0 = .ok (.aload_n 0, 1) := by decide +kernel
theorem dX0_drop_1 : decode cX0_drop 1 = .ok (.getfield 54, 3) := by decide +kernel
theorem dX0_drop_4 : decode cX0_drop 4 = .ok (.istore_n 1, 1) := by decide +kernel
theorem dX0_drop_5 : decode cX0_drop 5 = .ok (.aload_n 0, 1) := by decide +kernel
theorem dX0_drop_6 : decode cX0_drop 6 = .ok (.iconst 0, 1) := by decide +kernel
theorem dX0_drop_7 : decode cX0_drop 7 = .ok (.putfield 54, 3) := by decide +kernel
theorem dX0_drop_10 : decode cX0_drop 10 = .ok (.iload_n 1, 1) := by decide +kernel
theorem dX0_drop_11 : decode cX0_drop 11 = .ok (.ireturn, 1) := by decide +kernel
theorem dX0_active_0 : decode cX0_active 0 = .ok (.iload_n 1, 1) := by decide +kernel
theorem dX0_active_1 : decode cX0_active 1 = .ok (.ifCond .lt 20, 3) := by decide +kernel
theorem dX0_active_4 : decode cX0_active 4 = .ok (.iload_n 1, 1) := by decide +kernel
theorem dX0_active_5 : decode cX0_active 5 = .ok (.aload_n 0, 1) := by decide +kernel
theorem dX0_active_6 : decode cX0_active 6 = .ok (.getfield 112, 3) := by decide +kernel
theorem dX0_active_9 : decode cX0_active 9 = .ok (.if_icmp .ge 12, 3) := by decide +kernel
theorem dX0_active_12 : decode cX0_active 12 = .ok (.aload_n 0, 1) := by decide +kernel
theorem dX0_active_13 : decode cX0_active 13 = .ok (.getfield 24, 3) := by decide +kernel
theorem dX0_active_16 : decode cX0_active 16 = .ok (.iload_n 1, 1) := by decide +kernel
theorem dX0_active_17 : decode cX0_active 17 = .ok (.iaload, 1) := by decide +kernel
theorem dX0_active_18 : decode cX0_active 18 = .ok (.goto 4, 3) := by decide +kernel
theorem dX0_active_21 : decode cX0_active 21 = .ok (.iconst (-1), 1) := by decide +kernel
theorem dX0_active_22 : decode cX0_active 22 = .ok (.ireturn, 1) := by decide +kernel
theorem dX0_now_0 : decode cX0_now 0 = .ok (.aload_n 0, 1) := by decide +kernel
theorem dX0_now_1 : decode cX0_now 1 = .ok (.getfield 78, 3) := by decide +kernel
theorem dX0_now_4 : decode cX0_now 4 = .ok (.lreturn, 1) := by decide +kernel
theorem dX0_next_0 : decode cX0_next 0 = .ok (.ldc2_w 115, 3) := by decide +kernel
theorem dX0_next_3 : decode cX0_next 3 = .ok (.lstore_n 1, 1) := by decide +kernel
theorem dX0_next_4 : decode cX0_next 4 = .ok (.iconst 0, 1) := by decide +kernel
theorem dX0_next_5 : decode cX0_next 5 = .ok (.istore_n 3, 1) := by decide +kernel
theorem dX0_next_6 : decode cX0_next 6 = .ok (.iload_n 3, 1) := by decide +kernel
theorem dX0_next_7 : decode cX0_next 7 = .ok (.aload_n 0, 1) := by decide +kernel
theorem dX0_next_8 : decode cX0_next 8 = .ok (.getfield 9, 3) := by decide +kernel
theorem dX0_next_11 : decode cX0_next 11 = .ok (.if_icmp .ge 50, 3) := by decide +kernel
theorem dX0_next_14 : decode cX0_next 14 = .ok (.aload_n 0, 1) := by decide +kernel
theorem dX0_next_15 : decode cX0_next 15 = .ok (.iload_n 3, 1) := by decide +kernel
theorem dX0_next_16 : decode cX0_next 16 = .ok (.invokevirtual 106, 3) := by decide +kernel
theorem dX0_next_19 : decode cX0_next 19 = .ok (.ifCond .le 36, 3) := by decide +kernel
theorem dX0_next_22 : decode cX0_next 22 = .ok (.aload_n 0, 1) := by decide +kernel
theorem dX0_next_23 : decode cX0_next 23 = .ok (.getfield 33, 3) := by decide +kernel
theorem dX0_next_26 : decode cX0_next 26 = .ok (.aload_n 0, 1) := by decide +kernel
theorem dX0_next_27 : decode cX0_next 27 = .ok (.getfield 20, 3) := by decide +kernel
theorem dX0_next_30 : decode cX0_next 30 = .ok (.iload_n 3, 1) := by decide +kernel
theorem dX0_next_31 : decode cX0_next 31 = .ok (.iaload, 1) := by decide +kernel
theorem dX0_next_32 : decode cX0_next 32 = .ok (.laload, 1) := by decide +kernel
theorem dX0_next_33 : decode cX0_next 33 = .ok (.lstore 4, 2) := by decide +kernel
theorem dX0_next_35 : decode cX0_next 35 = .ok (.lload_n 1, 1) := by decide +kernel
theorem dX0_next_36 : decode cX0_next 36 = .ok (.ldc2_w 115, 3) := by decide +kernel
theorem dX0_next_39 : decode cX0_next 39 = .ok (.lcmp, 1) := by decide +kernel
theorem dX0_next_40 : decode cX0_next 40 = .ok (.ifCond .ne 8, 3) := by decide +kernel
theorem dX0_next_43 : decode cX0_next 43 = .ok (.lload 4, 2) := by decide +kernel
theorem dX0_next_45 : decode cX0_next 45 = .ok (.goto 9, 3) := by decide +kernel
theorem dX0_next_48 : decode cX0_next 48 = .ok (.lload_n 1, 1) := by decide +kernel
theorem dX0_next_49 : decode cX0_next 49 = .ok (.lload 4, 2) := by decide +kernel
theorem dX0_next_51 : decode cX0_next 51 = .ok (.invokestatic 117, 3) := by decide +kernel
theorem dX0_next_54 : decode cX0_next 54 = .ok (.lstore_n 1, 1) := by decide +kernel
theorem dX0_next_55 : decode cX0_next 55 = .ok (.iinc 3 1, 3) := by decide +kernel
theorem dX0_next_58 : decode cX0_next 58 = .ok (.goto (-52), 3) := by decide +kernel
theorem dX0_next_61 : decode cX0_next 61 = .ok (.lload_n 1, 1) := by decide +kernel
theorem dX0_next_62 : decode cX0_next 62 = .ok (.lreturn, 1) := by decide +kernel
theorem dX0_rowLength_0 : decode cX0_rowLength 0 = .ok (.aload_n 0, 1) := by decide +kernel
theorem dX0_rowLength_1 : decode cX0_rowLength 1 = .ok (.getfield 20, 3) := by decide +kernel
theorem dX0_rowLength_4 : decode cX0_rowLength 4 = .ok (.iload_n 1, 1) := by decide +kernel
theorem dX0_rowLength_5 : decode cX0_rowLength 5 = .ok (.iconst 1, 1) := by decide +kernel
theorem dX0_rowLength_6 : decode cX0_rowLength 6 = .ok (.iadd, 1) := by decide +kernel
theorem dX0_rowLength_7 : decode cX0_rowLength 7 = .ok (.iaload, 1) := by decide +kernel
theorem dX0_rowLength_8 : decode cX0_rowLength 8 = .ok (.aload_n 0, 1) := by decide +kernel
theorem dX0_rowLength_9 : decode cX0_rowLength 9 = .ok (.getfield 20, 3) := by decide +kernel
theorem dX0_rowLength_12 : decode cX0_rowLength 12 = .ok (.iload_n 1, 1) := by decide +kernel
theorem dX0_rowLength_13 : decode cX0_rowLength 13 = .ok (.iaload, 1) := by decide +kernel
theorem dX0_rowLength_14 : decode cX0_rowLength 14 = .ok (.isub, 1) := by decide +kernel
theorem dX0_rowLength_15 : decode cX0_rowLength 15 = .ok (.ireturn, 1) := by decide +kernel
theorem dX0_total_0 : decode cX0_total 0 = .ok (.aload_n 0, 1) := by decide +kernel
theorem dX0_total_1 : decode cX0_total 1 = .ok (.getfield 20, 3) := by decide +kernel
theorem dX0_total_4 : decode cX0_total 4 = .ok (.aload_n 0, 1) := by decide +kernel
theorem dX0_total_5 : decode cX0_total 5 = .ok (.getfield 9, 3) := by decide +kernel
theorem dX0_total_8 : decode cX0_total 8 = .ok (.iaload, 1) := by decide +kernel
theorem dX0_total_9 : decode cX0_total 9 = .ok (.ireturn, 1) := by decide +kernel
theorem dL_cell_0 : decode cL_cell 0 = .ok (.iload_n 1, 1) := by decide +kernel
theorem dL_cell_1 : decode cL_cell 1 = .ok (.aload_n 0, 1) := by decide +kernel
theorem dL_cell_2 : decode cL_cell 2 = .ok (.arraylength, 1) := by decide +kernel
theorem dL_cell_3 : decode cL_cell 3 = .ok (.if_icmp .ge 9, 3) := by decide +kernel
theorem dL_cell_6 : decode cL_cell 6 = .ok (.aload_n 0, 1) := by decide +kernel
theorem dL_cell_7 : decode cL_cell 7 = .ok (.iload_n 1, 1) := by decide +kernel
theorem dL_cell_8 : decode cL_cell 8 = .ok (.iaload, 1) := by decide +kernel
theorem dL_cell_9 : decode cL_cell 9 = .ok (.goto 4, 3) := by decide +kernel
theorem dL_cell_12 : decode cL_cell 12 = .ok (.iconst 0, 1) := by decide +kernel
theorem dL_cell_13 : decode cL_cell 13 = .ok (.ireturn, 1) := by decide +kernel
theorem dL_element_0 : decode cL_element 0 = .ok (.aload_n 0, 1) := by decide +kernel
theorem dL_element_1 : decode cL_element 1 = .ok (.lload_n 1, 1) := by decide +kernel
theorem dL_element_2 : decode cL_element 2 = .ok (.lload_n 3, 1) := by decide +kernel
theorem dL_element_3 : decode cL_element 3 = .ok (.invokevirtual 7, 3) := by decide +kernel
theorem dL_element_6 : decode cL_element 6 = .ok (.goto 11, 3) := by decide +kernel
theorem dL_element_9 : decode cL_element 9 = .ok (.astore 5, 2) := by decide +kernel
theorem dL_element_11 : decode cL_element 11 = .ok (.iconst 1, 1) := by decide +kernel
theorem dL_element_12 : decode cL_element 12 = .ok (.ireturn, 1) := by decide +kernel
theorem dL_element_13 : decode cL_element 13 = .ok (.astore 5, 2) := by decide +kernel
theorem dL_element_15 : decode cL_element 15 = .ok (.iconst 2, 1) := by decide +kernel
theorem dL_element_16 : decode cL_element 16 = .ok (.ireturn, 1) := by decide +kernel
theorem dL_element_17 : decode cL_element 17 = .ok (.iconst 0, 1) := by decide +kernel
theorem dL_element_18 : decode cL_element 18 = .ok (.ireturn, 1) := by decide +kernel
theorem dX0_element_0 : decode cX0_element 0 = .ok (.lload_n 3, 1) := by decide +kernel
theorem dX0_element_1 : decode cX0_element 1 = .ok (.lconst 0, 1) := by decide +kernel
theorem dX0_element_2 : decode cX0_element 2 = .ok (.lcmp, 1) := by decide +kernel
theorem dX0_element_3 : decode cX0_element 3 = .ok (.ifCond .lt 11, 3) := by decide +kernel
theorem dX0_element_6 : decode cX0_element 6 = .ok (.lload_n 3, 1) := by decide +kernel
theorem dX0_element_7 : decode cX0_element 7 = .ok (.ldc2_w 45, 3) := by decide +kernel
theorem dX0_element_10 : decode cX0_element 10 = .ok (.lcmp, 1) := by decide +kernel
theorem dX0_element_11 : decode cX0_element 11 = .ok (.ifCond .le 13, 3) := by decide +kernel
theorem dX0_element_14 : decode cX0_element 14 = .ok (.new 47, 3) := by decide +kernel
theorem dX0_element_17 : decode cX0_element 17 = .ok (.dup, 1) := by decide +kernel
theorem dX0_element_18 : decode cX0_element 18 = .ok (.ldc 49, 2) := by decide +kernel
theorem dX0_element_20 : decode cX0_element 20 = .ok (.invokespecial 51, 3) := by decide +kernel
theorem dX0_element_23 : decode cX0_element 23 = .ok (.athrow, 1) := by decide +kernel
theorem dX0_element_24 : decode cX0_element 24 = .ok (.aload_n 0, 1) := by decide +kernel
theorem dX0_element_25 : decode cX0_element 25 = .ok (.getfield 54, 3) := by decide +kernel
theorem dX0_element_28 : decode cX0_element 28 = .ok (.bipush 16, 2) := by decide +kernel
theorem dX0_element_30 : decode cX0_element 30 = .ok (.if_icmp .lt 13, 3) := by decide +kernel
theorem dX0_element_33 : decode cX0_element 33 = .ok (.new 57, 3) := by decide +kernel
theorem dX0_element_36 : decode cX0_element 36 = .ok (.dup, 1) := by decide +kernel
theorem dX0_element_37 : decode cX0_element 37 = .ok (.ldc 59, 2) := by decide +kernel
theorem dX0_element_39 : decode cX0_element 39 = .ok (.invokespecial 61, 3) := by decide +kernel
theorem dX0_element_42 : decode cX0_element 42 = .ok (.athrow, 1) := by decide +kernel
theorem dX0_element_43 : decode cX0_element 43 = .ok (.aload_n 0, 1) := by decide +kernel
theorem dX0_element_44 : decode cX0_element 44 = .ok (.getfield 39, 3) := by decide +kernel
theorem dX0_element_47 : decode cX0_element 47 = .ok (.aload_n 0, 1) := by decide +kernel
theorem dX0_element_48 : decode cX0_element 48 = .ok (.getfield 54, 3) := by decide +kernel
theorem dX0_element_51 : decode cX0_element 51 = .ok (.lload_n 1, 1) := by decide +kernel
theorem dX0_element_52 : decode cX0_element 52 = .ok (.lastore, 1) := by decide +kernel
theorem dX0_element_53 : decode cX0_element 53 = .ok (.aload_n 0, 1) := by decide +kernel
theorem dX0_element_54 : decode cX0_element 54 = .ok (.getfield 42, 3) := by decide +kernel
theorem dX0_element_57 : decode cX0_element 57 = .ok (.aload_n 0, 1) := by decide +kernel
theorem dX0_element_58 : decode cX0_element 58 = .ok (.getfield 54, 3) := by decide +kernel
theorem dX0_element_61 : decode cX0_element 61 = .ok (.lload_n 3, 1) := by decide +kernel
theorem dX0_element_62 : decode cX0_element 62 = .ok (.lastore, 1) := by decide +kernel
theorem dX0_element_63 : decode cX0_element 63 = .ok (.aload_n 0, 1) := by decide +kernel
theorem dX0_element_64 : decode cX0_element 64 = .ok (.dup, 1) := by decide +kernel
theorem dX0_element_65 : decode cX0_element 65 = .ok (.getfield 54, 3) := by decide +kernel
theorem dX0_element_68 : decode cX0_element 68 = .ok (.iconst 1, 1) := by decide +kernel
theorem dX0_element_69 : decode cX0_element 69 = .ok (.iadd, 1) := by decide +kernel
theorem dX0_element_70 : decode cX0_element 70 = .ok (.putfield 54, 3) := by decide +kernel
theorem dX0_element_73 : decode cX0_element 73 = .ok (.return_, 1) := by decide +kernel
theorem dL_assign_0 : decode cL_assign 0 = .ok (.aload 5, 2) := by decide +kernel
theorem dL_assign_2 : decode cL_assign 2 = .ok (.iconst 0, 1) := by decide +kernel
theorem dL_assign_3 : decode cL_assign 3 = .ok (.aload_n 0, 1) := by decide +kernel
theorem dL_assign_4 : decode cL_assign 4 = .ok (.iload_n 1, 1) := by decide +kernel
theorem dL_assign_5 : decode cL_assign 5 = .ok (.iload_n 2, 1) := by decide +kernel
theorem dL_assign_6 : decode cL_assign 6 = .ok (.lload_n 3, 1) := by decide +kernel
theorem dL_assign_7 : decode cL_assign 7 = .ok (.invokevirtual 17, 3) := by decide +kernel
theorem dL_assign_10 : decode cL_assign 10 = .ok (.i2l, 1) := by decide +kernel
theorem dL_assign_11 : decode cL_assign 11 = .ok (.lastore, 1) := by decide +kernel
theorem dL_assign_12 : decode cL_assign 12 = .ok (.goto 15, 3) := by decide +kernel
theorem dL_assign_15 : decode cL_assign 15 = .ok (.astore 6, 2) := by decide +kernel
theorem dL_assign_17 : decode cL_assign 17 = .ok (.iconst 1, 1) := by decide +kernel
theorem dL_assign_18 : decode cL_assign 18 = .ok (.ireturn, 1) := by decide +kernel
theorem dL_assign_19 : decode cL_assign 19 = .ok (.astore 6, 2) := by decide +kernel
theorem dL_assign_21 : decode cL_assign 21 = .ok (.iconst 2, 1) := by decide +kernel
theorem dL_assign_22 : decode cL_assign 22 = .ok (.ireturn, 1) := by decide +kernel
theorem dL_assign_23 : decode cL_assign 23 = .ok (.astore 6, 2) := by decide +kernel
theorem dL_assign_25 : decode cL_assign 25 = .ok (.iconst 3, 1) := by decide +kernel
theorem dL_assign_26 : decode cL_assign 26 = .ok (.ireturn, 1) := by decide +kernel
theorem dL_assign_27 : decode cL_assign 27 = .ok (.iconst 0, 1) := by decide +kernel
theorem dL_assign_28 : decode cL_assign 28 = .ok (.ireturn, 1) := by decide +kernel
theorem dX0_assign_0 : decode cX0_assign 0 = .ok (.aload_n 0, 1) := by decide +kernel
theorem dX0_assign_1 : decode cX0_assign 1 = .ok (.iload_n 1, 1) := by decide +kernel
theorem dX0_assign_2 : decode cX0_assign 2 = .ok (.invokevirtual 62, 3) := by decide +kernel
theorem dX0_assign_5 : decode cX0_assign 5 = .ok (.aload_n 0, 1) := by decide +kernel
theorem dX0_assign_6 : decode cX0_assign 6 = .ok (.getfield 54, 3) := by decide +kernel
theorem dX0_assign_9 : decode cX0_assign 9 = .ok (.ifCond .ne 13, 3) := by decide +kernel
theorem dX0_assign_12 : decode cX0_assign 12 = .ok (.new 57, 3) := by decide +kernel
theorem dX0_assign_15 : decode cX0_assign 15 = .ok (.dup, 1) := by decide +kernel
theorem dX0_assign_16 : decode cX0_assign 16 = .ok (.ldc 66, 2) := by decide +kernel
theorem dX0_assign_18 : decode cX0_assign 18 = .ok (.invokespecial 61, 3) := by decide +kernel
theorem dX0_assign_21 : decode cX0_assign 21 = .ok (.athrow, 1) := by decide +kernel
theorem dX0_assign_22 : decode cX0_assign 22 = .ok (.aload_n 0, 1) := by decide +kernel
theorem dX0_assign_23 : decode cX0_assign 23 = .ok (.iload_n 2, 1) := by decide +kernel
theorem dX0_assign_24 : decode cX0_assign 24 = .ok (.lload_n 3, 1) := by decide +kernel
theorem dX0_assign_25 : decode cX0_assign 25 = .ok (.invokevirtual 68, 3) := by decide +kernel
theorem dX0_assign_28 : decode cX0_assign 28 = .ok (.ifCond .eq 10, 3) := by decide +kernel
theorem dX0_assign_31 : decode cX0_assign 31 = .ok (.aload_n 0, 1) := by decide +kernel
theorem dX0_assign_32 : decode cX0_assign 32 = .ok (.invokevirtual 72, 3) := by decide +kernel
theorem dX0_assign_35 : decode cX0_assign 35 = .ok (.ifCond .ne 13, 3) := by decide +kernel
theorem dX0_assign_38 : decode cX0_assign 38 = .ok (.new 47, 3) := by decide +kernel
theorem dX0_assign_41 : decode cX0_assign 41 = .ok (.dup, 1) := by decide +kernel
theorem dX0_assign_42 : decode cX0_assign 42 = .ok (.ldc 76, 2) := by decide +kernel
theorem dX0_assign_44 : decode cX0_assign 44 = .ok (.invokespecial 51, 3) := by decide +kernel
theorem dX0_assign_47 : decode cX0_assign 47 = .ok (.athrow, 1) := by decide +kernel
theorem dX0_assign_48 : decode cX0_assign 48 = .ok (.aload_n 0, 1) := by decide +kernel
theorem dX0_assign_49 : decode cX0_assign 49 = .ok (.getfield 78, 3) := by decide +kernel
theorem dX0_assign_52 : decode cX0_assign 52 = .ok (.aload_n 0, 1) := by decide +kernel
theorem dX0_assign_53 : decode cX0_assign 53 = .ok (.getfield 42, 3) := by decide +kernel
theorem dX0_assign_56 : decode cX0_assign 56 = .ok (.iconst 0, 1) := by decide +kernel
theorem dX0_assign_57 : decode cX0_assign 57 = .ok (.laload, 1) := by decide +kernel
theorem dX0_assign_58 : decode cX0_assign 58 = .ok (.ladd, 1) := by decide +kernel
theorem dX0_assign_59 : decode cX0_assign 59 = .ok (.lstore 5, 2) := by decide +kernel
theorem dX0_assign_61 : decode cX0_assign 61 = .ok (.aload_n 0, 1) := by decide +kernel
theorem dX0_assign_62 : decode cX0_assign 62 = .ok (.getfield 20, 3) := by decide +kernel
theorem dX0_assign_65 : decode cX0_assign 65 = .ok (.iload_n 1, 1) := by decide +kernel
theorem dX0_assign_66 : decode cX0_assign 66 = .ok (.iaload, 1) := by decide +kernel
theorem dX0_assign_67 : decode cX0_assign 67 = .ok (.istore 7, 2) := by decide +kernel
theorem dX0_assign_69 : decode cX0_assign 69 = .ok (.aload_n 0, 1) := by decide +kernel
theorem dX0_assign_70 : decode cX0_assign 70 = .ok (.getfield 20, 3) := by decide +kernel
theorem dX0_assign_73 : decode cX0_assign 73 = .ok (.iload_n 1, 1) := by decide +kernel
theorem dX0_assign_74 : decode cX0_assign 74 = .ok (.iconst 1, 1) := by decide +kernel
theorem dX0_assign_75 : decode cX0_assign 75 = .ok (.iadd, 1) := by decide +kernel
theorem dX0_assign_76 : decode cX0_assign 76 = .ok (.iaload, 1) := by decide +kernel
theorem dX0_assign_77 : decode cX0_assign 77 = .ok (.istore 8, 2) := by decide +kernel
theorem dX0_assign_79 : decode cX0_assign 79 = .ok (.aload_n 0, 1) := by decide +kernel
theorem dX0_assign_80 : decode cX0_assign 80 = .ok (.iload 7, 2) := by decide +kernel
theorem dX0_assign_82 : decode cX0_assign 82 = .ok (.iload 8, 2) := by decide +kernel
theorem dX0_assign_84 : decode cX0_assign 84 = .ok (.lload 5, 2) := by decide +kernel
theorem dX0_assign_86 : decode cX0_assign 86 = .ok (.lconst 1, 1) := by decide +kernel
theorem dX0_assign_87 : decode cX0_assign 87 = .ok (.lsub, 1) := by decide +kernel
theorem dX0_assign_88 : decode cX0_assign 88 = .ok (.invokevirtual 82, 3) := by decide +kernel
theorem dX0_assign_91 : decode cX0_assign 91 = .ok (.istore 9, 2) := by decide +kernel
theorem dX0_assign_93 : decode cX0_assign 93 = .ok (.aload_n 0, 1) := by decide +kernel
theorem dX0_assign_94 : decode cX0_assign 94 = .ok (.iload 7, 2) := by decide +kernel
theorem dX0_assign_96 : decode cX0_assign 96 = .ok (.iload 9, 2) := by decide +kernel
theorem dX0_assign_98 : decode cX0_assign 98 = .ok (.lload 5, 2) := by decide +kernel
theorem dX0_assign_100 : decode cX0_assign 100 = .ok (.aload_n 0, 1) := by decide +kernel
theorem dX0_assign_101 : decode cX0_assign 101 = .ok (.iload_n 2, 1) := by decide +kernel
theorem dX0_assign_102 : decode cX0_assign 102 = .ok (.lload_n 3, 1) := by decide +kernel
theorem dX0_assign_103 : decode cX0_assign 103 = .ok (.invokevirtual 86, 3) := by decide +kernel
theorem dX0_assign_106 : decode cX0_assign 106 = .ok (.lsub, 1) := by decide +kernel
theorem dX0_assign_107 : decode cX0_assign 107 = .ok (.lconst 1, 1) := by decide +kernel
theorem dX0_assign_108 : decode cX0_assign 108 = .ok (.lsub, 1) := by decide +kernel
theorem dX0_assign_109 : decode cX0_assign 109 = .ok (.invokevirtual 82, 3) := by decide +kernel
theorem dX0_assign_112 : decode cX0_assign 112 = .ok (.istore 10, 2) := by decide +kernel
theorem dX0_assign_114 : decode cX0_assign 114 = .ok (.aload_n 0, 1) := by decide +kernel
theorem dX0_assign_115 : decode cX0_assign 115 = .ok (.iload 10, 2) := by decide +kernel
theorem dX0_assign_117 : decode cX0_assign 117 = .ok (.iload 9, 2) := by decide +kernel
theorem dX0_assign_119 : decode cX0_assign 119 = .ok (.aload_n 0, 1) := by decide +kernel
theorem dX0_assign_120 : decode cX0_assign 120 = .ok (.getfield 39, 3) := by decide +kernel
theorem dX0_assign_123 : decode cX0_assign 123 = .ok (.iconst 0, 1) := by decide +kernel
theorem dX0_assign_124 : decode cX0_assign 124 = .ok (.laload, 1) := by decide +kernel
theorem dX0_assign_125 : decode cX0_assign 125 = .ok (.invokevirtual 90, 3) := by decide +kernel
theorem dX0_assign_128 : decode cX0_assign 128 = .ok (.istore 11, 2) := by decide +kernel
theorem dX0_assign_130 : decode cX0_assign 130 = .ok (.iload 11, 2) := by decide +kernel
theorem dX0_assign_132 : decode cX0_assign 132 = .ok (.iload 10, 2) := by decide +kernel
theorem dX0_assign_134 : decode cX0_assign 134 = .ok (.isub, 1) := by decide +kernel
theorem dX0_assign_135 : decode cX0_assign 135 = .ok (.iload 8, 2) := by decide +kernel
theorem dX0_assign_137 : decode cX0_assign 137 = .ok (.iload 9, 2) := by decide +kernel
theorem dX0_assign_139 : decode cX0_assign 139 = .ok (.isub, 1) := by decide +kernel
theorem dX0_assign_140 : decode cX0_assign 140 = .ok (.iadd, 1) := by decide +kernel
theorem dX0_assign_141 : decode cX0_assign 141 = .ok (.istore 12, 2) := by decide +kernel
theorem dX0_assign_143 : decode cX0_assign 143 = .ok (.aload_n 0, 1) := by decide +kernel
theorem dX0_assign_144 : decode cX0_assign 144 = .ok (.getfield 20, 3) := by decide +kernel
theorem dX0_assign_147 : decode cX0_assign 147 = .ok (.aload_n 0, 1) := by decide +kernel
theorem dX0_assign_148 : decode cX0_assign 148 = .ok (.getfield 9, 3) := by decide +kernel
theorem dX0_assign_151 : decode cX0_assign 151 = .ok (.iaload, 1) := by decide +kernel
theorem dX0_assign_152 : decode cX0_assign 152 = .ok (.iload 12, 2) := by decide +kernel
theorem dX0_assign_154 : decode cX0_assign 154 = .ok (.isub, 1) := by decide +kernel
theorem dX0_assign_155 : decode cX0_assign 155 = .ok (.aload_n 0, 1) := by decide +kernel
theorem dX0_assign_156 : decode cX0_assign 156 = .ok (.getfield 54, 3) := by decide +kernel
theorem dX0_assign_159 : decode cX0_assign 159 = .ok (.iadd, 1) := by decide +kernel
theorem dX0_assign_160 : decode cX0_assign 160 = .ok (.aload_n 0, 1) := by decide +kernel
theorem dX0_assign_161 : decode cX0_assign 161 = .ok (.getfield 13, 3) := by decide +kernel
theorem dX0_assign_164 : decode cX0_assign 164 = .ok (.if_icmp .le 13, 3) := by decide +kernel
theorem dX0_assign_167 : decode cX0_assign 167 = .ok (.new 57, 3) := by decide +kernel
theorem dX0_assign_170 : decode cX0_assign 170 = .ok (.dup, 1) := by decide +kernel
theorem dX0_assign_171 : decode cX0_assign 171 = .ok (.ldc 93, 2) := by decide +kernel
theorem dX0_assign_173 : decode cX0_assign 173 = .ok (.invokespecial 61, 3) := by decide +kernel
theorem dX0_assign_176 : decode cX0_assign 176 = .ok (.athrow, 1) := by decide +kernel
theorem dX0_assign_177 : decode cX0_assign 177 = .ok (.iload 10, 2) := by decide +kernel
theorem dX0_assign_179 : decode cX0_assign 179 = .ok (.iload 9, 2) := by decide +kernel
theorem dX0_assign_181 : decode cX0_assign 181 = .ok (.iadd, 1) := by decide +kernel
theorem dX0_assign_182 : decode cX0_assign 182 = .ok (.iload 11, 2) := by decide +kernel
theorem dX0_assign_184 : decode cX0_assign 184 = .ok (.isub, 1) := by decide +kernel
theorem dX0_assign_185 : decode cX0_assign 185 = .ok (.istore 13, 2) := by decide +kernel
theorem dX0_assign_187 : decode cX0_assign 187 = .ok (.aload_n 0, 1) := by decide +kernel
theorem dX0_assign_188 : decode cX0_assign 188 = .ok (.iload 11, 2) := by decide +kernel
theorem dX0_assign_190 : decode cX0_assign 190 = .ok (.iload 10, 2) := by decide +kernel
theorem dX0_assign_192 : decode cX0_assign 192 = .ok (.iload 9, 2) := by decide +kernel
theorem dX0_assign_194 : decode cX0_assign 194 = .ok (.iload 11, 2) := by decide +kernel
theorem dX0_assign_196 : decode cX0_assign 196 = .ok (.isub, 1) := by decide +kernel
theorem dX0_assign_197 : decode cX0_assign 197 = .ok (.invokevirtual 95, 3) := by decide +kernel
theorem dX0_assign_200 : decode cX0_assign 200 = .ok (.aload_n 0, 1) := by decide +kernel
theorem dX0_assign_201 : decode cX0_assign 201 = .ok (.iload_n 1, 1) := by decide +kernel
theorem dX0_assign_202 : decode cX0_assign 202 = .ok (.iload 13, 2) := by decide +kernel
theorem dX0_assign_204 : decode cX0_assign 204 = .ok (.aload_n 0, 1) := by decide +kernel
theorem dX0_assign_205 : decode cX0_assign 205 = .ok (.getfield 54, 3) := by decide +kernel
theorem dX0_assign_208 : decode cX0_assign 208 = .ok (.iadd, 1) := by decide +kernel
theorem dX0_assign_209 : decode cX0_assign 209 = .ok (.invokevirtual 99, 3) := by decide +kernel
theorem dX0_assign_212 : decode cX0_assign 212 = .ok (.aload_n 0, 1) := by decide +kernel
theorem dX0_assign_213 : decode cX0_assign 213 = .ok (.iload 13, 2) := by decide +kernel
theorem dX0_assign_215 : decode cX0_assign 215 = .ok (.invokevirtual 103, 3) := by decide +kernel
theorem dX0_assign_218 : decode cX0_assign 218 = .ok (.aload_n 0, 1) := by decide +kernel
theorem dX0_assign_219 : decode cX0_assign 219 = .ok (.iconst 0, 1) := by decide +kernel
theorem dX0_assign_220 : decode cX0_assign 220 = .ok (.putfield 54, 3) := by decide +kernel
theorem dX0_assign_223 : decode cX0_assign 223 = .ok (.iload 12, 2) := by decide +kernel
theorem dX0_assign_225 : decode cX0_assign 225 = .ok (.ireturn, 1) := by decide +kernel
theorem dX0_requireDriver_0 : decode cX0_requireDriver 0 = .ok (.iload_n 1, 1) := by decide +kernel
theorem dX0_requireDriver_1 : decode cX0_requireDriver 1 = .ok (.ifCond .lt 11, 3) := by decide +kernel
theorem dX0_requireDriver_4 : decode cX0_requireDriver 4 = .ok (.iload_n 1, 1) := by decide +kernel
theorem dX0_requireDriver_5 : decode cX0_requireDriver 5 = .ok (.aload_n 0, 1) := by decide +kernel
theorem dX0_requireDriver_6 : decode cX0_requireDriver 6 = .ok (.getfield 9, 3) := by decide +kernel
theorem dX0_requireDriver_9 : decode cX0_requireDriver 9 = .ok (.if_icmp .lt 13, 3) := by decide +kernel
theorem dX0_requireDriver_12 : decode cX0_requireDriver 12 = .ok (.new 120, 3) := by decide +kernel
theorem dX0_requireDriver_15 : decode cX0_requireDriver 15 = .ok (.dup, 1) := by decide +kernel
theorem dX0_requireDriver_16 : decode cX0_requireDriver 16 = .ok (.ldc 127, 2) := by decide +kernel
theorem dX0_requireDriver_18 : decode cX0_requireDriver 18 = .ok (.invokespecial 124, 3) := by decide +kernel
theorem dX0_requireDriver_21 : decode cX0_requireDriver 21 = .ok (.athrow, 1) := by decide +kernel
theorem dX0_requireDriver_22 : decode cX0_requireDriver 22 = .ok (.return_, 1) := by decide +kernel
theorem dX0_isLimitGood_0 : decode cX0_isLimitGood 0 = .ok (.iload_n 1, 1) := by decide +kernel
theorem dX0_isLimitGood_1 : decode cX0_isLimitGood 1 = .ok (.iconst 2, 1) := by decide +kernel
theorem dX0_isLimitGood_2 : decode cX0_isLimitGood 2 = .ok (.if_icmp .ne 26, 3) := by decide +kernel
theorem dX0_isLimitGood_5 : decode cX0_isLimitGood 5 = .ok (.lload_n 2, 1) := by decide +kernel
theorem dX0_isLimitGood_6 : decode cX0_isLimitGood 6 = .ok (.lconst 0, 1) := by decide +kernel
theorem dX0_isLimitGood_7 : decode cX0_isLimitGood 7 = .ok (.lcmp, 1) := by decide +kernel
theorem dX0_isLimitGood_8 : decode cX0_isLimitGood 8 = .ok (.ifCond .lt 18, 3) := by decide +kernel
theorem dX0_isLimitGood_11 : decode cX0_isLimitGood 11 = .ok (.lload_n 2, 1) := by decide +kernel
theorem dX0_isLimitGood_12 : decode cX0_isLimitGood 12 = .ok (.aload_n 0, 1) := by decide +kernel
theorem dX0_isLimitGood_13 : decode cX0_isLimitGood 13 = .ok (.getfield 42, 3) := by decide +kernel
theorem dX0_isLimitGood_16 : decode cX0_isLimitGood 16 = .ok (.iconst 0, 1) := by decide +kernel
theorem dX0_isLimitGood_17 : decode cX0_isLimitGood 17 = .ok (.laload, 1) := by decide +kernel
theorem dX0_isLimitGood_18 : decode cX0_isLimitGood 18 = .ok (.lcmp, 1) := by decide +kernel
theorem dX0_isLimitGood_19 : decode cX0_isLimitGood 19 = .ok (.ifCond .gt 7, 3) := by decide +kernel
theorem dX0_isLimitGood_22 : decode cX0_isLimitGood 22 = .ok (.iconst 1, 1) := by decide +kernel
theorem dX0_isLimitGood_23 : decode cX0_isLimitGood 23 = .ok (.goto 4, 3) := by decide +kernel
theorem dX0_isLimitGood_26 : decode cX0_isLimitGood 26 = .ok (.iconst 0, 1) := by decide +kernel
theorem dX0_isLimitGood_27 : decode cX0_isLimitGood 27 = .ok (.ireturn, 1) := by decide +kernel
theorem dX0_isLimitGood_28 : decode cX0_isLimitGood 28 = .ok (.iload_n 1, 1) := by decide +kernel
theorem dX0_isLimitGood_29 : decode cX0_isLimitGood 29 = .ok (.ifCond .eq 8, 3) := by decide +kernel
theorem dX0_isLimitGood_32 : decode cX0_isLimitGood 32 = .ok (.iload_n 1, 1) := by decide +kernel
theorem dX0_isLimitGood_33 : decode cX0_isLimitGood 33 = .ok (.iconst 1, 1) := by decide +kernel
theorem dX0_isLimitGood_34 : decode cX0_isLimitGood 34 = .ok (.if_icmp .ne 7, 3) := by decide +kernel
theorem dX0_isLimitGood_37 : decode cX0_isLimitGood 37 = .ok (.iconst 1, 1) := by decide +kernel
theorem dX0_isLimitGood_38 : decode cX0_isLimitGood 38 = .ok (.goto 4, 3) := by decide +kernel
theorem dX0_isLimitGood_41 : decode cX0_isLimitGood 41 = .ok (.iconst 0, 1) := by decide +kernel
theorem dX0_isLimitGood_42 : decode cX0_isLimitGood 42 = .ok (.ireturn, 1) := by decide +kernel
theorem dX0_areDelaysGood_0 : decode cX0_areDelaysGood 0 = .ok (.ldc2_w 115, 3) := by decide +kernel
theorem dX0_areDelaysGood_3 : decode cX0_areDelaysGood 3 = .ok (.lstore_n 1, 1) := by decide +kernel
theorem dX0_areDelaysGood_4 : decode cX0_areDelaysGood 4 = .ok (.iconst 0, 1) := by decide +kernel
theorem dX0_areDelaysGood_5 : decode cX0_areDelaysGood 5 = .ok (.istore_n 3, 1) := by decide +kernel
theorem dX0_areDelaysGood_6 : decode cX0_areDelaysGood 6 = .ok (.iload_n 3, 1) := by decide +kernel
theorem dX0_areDelaysGood_7 : decode cX0_areDelaysGood 7 = .ok (.aload_n 0, 1) := by decide +kernel
theorem dX0_areDelaysGood_8 : decode cX0_areDelaysGood 8 = .ok (.getfield 54, 3) := by decide +kernel
theorem dX0_areDelaysGood_11 : decode cX0_areDelaysGood 11 = .ok (.if_icmp .ge 47, 3) := by decide +kernel
theorem dX0_areDelaysGood_14 : decode cX0_areDelaysGood 14 = .ok (.aload_n 0, 1) := by decide +kernel
theorem dX0_areDelaysGood_15 : decode cX0_areDelaysGood 15 = .ok (.getfield 42, 3) := by decide +kernel
theorem dX0_areDelaysGood_18 : decode cX0_areDelaysGood 18 = .ok (.iload_n 3, 1) := by decide +kernel
theorem dX0_areDelaysGood_19 : decode cX0_areDelaysGood 19 = .ok (.laload, 1) := by decide +kernel
theorem dX0_areDelaysGood_20 : decode cX0_areDelaysGood 20 = .ok (.lload_n 1, 1) := by decide +kernel
theorem dX0_areDelaysGood_21 : decode cX0_areDelaysGood 21 = .ok (.lcmp, 1) := by decide +kernel
theorem dX0_areDelaysGood_22 : decode cX0_areDelaysGood 22 = .ok (.ifCond .le 21, 3) := by decide +kernel
theorem dX0_areDelaysGood_25 : decode cX0_areDelaysGood 25 = .ok (.aload_n 0, 1) := by decide +kernel
theorem dX0_areDelaysGood_26 : decode cX0_areDelaysGood 26 = .ok (.getfield 78, 3) := by decide +kernel
theorem dX0_areDelaysGood_29 : decode cX0_areDelaysGood 29 = .ok (.aload_n 0, 1) := by decide +kernel
theorem dX0_areDelaysGood_30 : decode cX0_areDelaysGood 30 = .ok (.getfield 42, 3) := by decide +kernel
theorem dX0_areDelaysGood_33 : decode cX0_areDelaysGood 33 = .ok (.iload_n 3, 1) := by decide +kernel
theorem dX0_areDelaysGood_34 : decode cX0_areDelaysGood 34 = .ok (.laload, 1) := by decide +kernel
theorem dX0_areDelaysGood_35 : decode cX0_areDelaysGood 35 = .ok (.ladd, 1) := by decide +kernel
theorem dX0_areDelaysGood_36 : decode cX0_areDelaysGood 36 = .ok (.ldc2_w 45, 3) := by decide +kernel
theorem dX0_areDelaysGood_39 : decode cX0_areDelaysGood 39 = .ok (.lcmp, 1) := by decide +kernel
theorem dX0_areDelaysGood_40 : decode cX0_areDelaysGood 40 = .ok (.ifCond .le 5, 3) := by decide +kernel
theorem dX0_areDelaysGood_43 : decode cX0_areDelaysGood 43 = .ok (.iconst 0, 1) := by decide +kernel
theorem dX0_areDelaysGood_44 : decode cX0_areDelaysGood 44 = .ok (.ireturn, 1) := by decide +kernel
theorem dX0_areDelaysGood_45 : decode cX0_areDelaysGood 45 = .ok (.aload_n 0, 1) := by decide +kernel
theorem dX0_areDelaysGood_46 : decode cX0_areDelaysGood 46 = .ok (.getfield 42, 3) := by decide +kernel
theorem dX0_areDelaysGood_49 : decode cX0_areDelaysGood 49 = .ok (.iload_n 3, 1) := by decide +kernel
theorem dX0_areDelaysGood_50 : decode cX0_areDelaysGood 50 = .ok (.laload, 1) := by decide +kernel
theorem dX0_areDelaysGood_51 : decode cX0_areDelaysGood 51 = .ok (.lstore_n 1, 1) := by decide +kernel
theorem dX0_areDelaysGood_52 : decode cX0_areDelaysGood 52 = .ok (.iinc 3 1, 3) := by decide +kernel
theorem dX0_areDelaysGood_55 : decode cX0_areDelaysGood 55 = .ok (.goto (-49), 3) := by decide +kernel
theorem dX0_areDelaysGood_58 : decode cX0_areDelaysGood 58 = .ok (.iconst 1, 1) := by decide +kernel
theorem dX0_areDelaysGood_59 : decode cX0_areDelaysGood 59 = .ok (.ireturn, 1) := by decide +kernel
theorem dX0_firstBehind_0 : decode cX0_firstBehind 0 = .ok (.iload_n 1, 1) := by decide +kernel
theorem dX0_firstBehind_1 : decode cX0_firstBehind 1 = .ok (.istore 5, 2) := by decide +kernel
theorem dX0_firstBehind_3 : decode cX0_firstBehind 3 = .ok (.iload 5, 2) := by decide +kernel
theorem dX0_firstBehind_5 : decode cX0_firstBehind 5 = .ok (.iload_n 2, 1) := by decide +kernel
theorem dX0_firstBehind_6 : decode cX0_firstBehind 6 = .ok (.if_icmp .ge 21, 3) := by decide +kernel
theorem dX0_firstBehind_9 : decode cX0_firstBehind 9 = .ok (.aload_n 0, 1) := by decide +kernel
theorem dX0_firstBehind_10 : decode cX0_firstBehind 10 = .ok (.getfield 33, 3) := by decide +kernel
theorem dX0_firstBehind_13 : decode cX0_firstBehind 13 = .ok (.iload 5, 2) := by decide +kernel
theorem dX0_firstBehind_15 : decode cX0_firstBehind 15 = .ok (.laload, 1) := by decide +kernel
theorem dX0_firstBehind_16 : decode cX0_firstBehind 16 = .ok (.lload_n 3, 1) := by decide +kernel
theorem dX0_firstBehind_17 : decode cX0_firstBehind 17 = .ok (.lcmp, 1) := by decide +kernel
theorem dX0_firstBehind_18 : decode cX0_firstBehind 18 = .ok (.ifCond .gt 9, 3) := by decide +kernel
theorem dX0_firstBehind_21 : decode cX0_firstBehind 21 = .ok (.iinc 5 1, 3) := by decide +kernel
theorem dX0_firstBehind_24 : decode cX0_firstBehind 24 = .ok (.goto (-21), 3) := by decide +kernel
theorem dX0_firstBehind_27 : decode cX0_firstBehind 27 = .ok (.iload 5, 2) := by decide +kernel
theorem dX0_firstBehind_29 : decode cX0_firstBehind 29 = .ok (.ireturn, 1) := by decide +kernel
theorem dX0_limitOf_0 : decode cX0_limitOf 0 = .ok (.iload_n 1, 1) := by decide +kernel
theorem dX0_limitOf_1 : decode cX0_limitOf 1 = .ok (.lookupswitch 36 #[(0, 27), (2, 34)], 27) := by decide +kernel
theorem dX0_limitOf_28 : decode cX0_limitOf 28 = .ok (.aload_n 0, 1) := by decide +kernel
theorem dX0_limitOf_29 : decode cX0_limitOf 29 = .ok (.getfield 42, 3) := by decide +kernel
theorem dX0_limitOf_32 : decode cX0_limitOf 32 = .ok (.iconst 0, 1) := by decide +kernel
theorem dX0_limitOf_33 : decode cX0_limitOf 33 = .ok (.laload, 1) := by decide +kernel
theorem dX0_limitOf_34 : decode cX0_limitOf 34 = .ok (.lreturn, 1) := by decide +kernel
theorem dX0_limitOf_35 : decode cX0_limitOf 35 = .ok (.lload_n 2, 1) := by decide +kernel
theorem dX0_limitOf_36 : decode cX0_limitOf 36 = .ok (.lreturn, 1) := by decide +kernel
theorem dX0_limitOf_37 : decode cX0_limitOf 37 = .ok (.lconst 0, 1) := by decide +kernel
theorem dX0_limitOf_38 : decode cX0_limitOf 38 = .ok (.lreturn, 1) := by decide +kernel
theorem dX0_startOfSameValues_0 : decode cX0_startOfSameValues 0 = .ok (.iload_n 2, 1) := by decide +kernel
theorem dX0_startOfSameValues_1 : decode cX0_startOfSameValues 1 = .ok (.istore 5, 2) := by decide +kernel
theorem dX0_startOfSameValues_3 : decode cX0_startOfSameValues 3 = .ok (.iload 5, 2) := by decide +kernel
theorem dX0_startOfSameValues_5 : decode cX0_startOfSameValues 5 = .ok (.iload_n 1, 1) := by decide +kernel
theorem dX0_startOfSameValues_6 : decode cX0_startOfSameValues 6 = .ok (.if_icmp .le 23, 3) := by decide +kernel
theorem dX0_startOfSameValues_9 : decode cX0_startOfSameValues 9 = .ok (.aload_n 0, 1) := by decide +kernel
theorem dX0_startOfSameValues_10 : decode cX0_startOfSameValues 10 = .ok (.getfield 36, 3) := by decide +kernel
theorem dX0_startOfSameValues_13 : decode cX0_startOfSameValues 13 = .ok (.iload 5, 2) := by decide +kernel
theorem dX0_startOfSameValues_15 : decode cX0_startOfSameValues 15 = .ok (.iconst 1, 1) := by decide +kernel
theorem dX0_startOfSameValues_16 : decode cX0_startOfSameValues 16 = .ok (.isub, 1) := by decide +kernel
theorem dX0_startOfSameValues_17 : decode cX0_startOfSameValues 17 = .ok (.laload, 1) := by decide +kernel
theorem dX0_startOfSameValues_18 : decode cX0_startOfSameValues 18 = .ok (.lload_n 3, 1) := by decide +kernel
theorem dX0_startOfSameValues_19 : decode cX0_startOfSameValues 19 = .ok (.lcmp, 1) := by decide +kernel
theorem dX0_startOfSameValues_20 : decode cX0_startOfSameValues 20 = .ok (.ifCond .ne 9, 3) := by decide +kernel
theorem dX0_startOfSameValues_23 : decode cX0_startOfSameValues 23 = .ok (.iinc 5 (-1), 3) := by decide +kernel
theorem dX0_startOfSameValues_26 : decode cX0_startOfSameValues 26 = .ok (.goto (-23), 3) := by decide +kernel
theorem dX0_startOfSameValues_29 : decode cX0_startOfSameValues 29 = .ok (.iload 5, 2) := by decide +kernel
theorem dX0_startOfSameValues_31 : decode cX0_startOfSameValues 31 = .ok (.ireturn, 1) := by decide +kernel
theorem dX0_moveTransactions_0 : decode cX0_moveTransactions 0 = .ok (.aload_n 0, 1) := by decide +kernel
theorem dX0_moveTransactions_1 : decode cX0_moveTransactions 1 = .ok (.getfield 33, 3) := by decide +kernel
theorem dX0_moveTransactions_4 : decode cX0_moveTransactions 4 = .ok (.iload_n 1, 1) := by decide +kernel
theorem dX0_moveTransactions_5 : decode cX0_moveTransactions 5 = .ok (.aload_n 0, 1) := by decide +kernel
theorem dX0_moveTransactions_6 : decode cX0_moveTransactions 6 = .ok (.getfield 33, 3) := by decide +kernel
theorem dX0_moveTransactions_9 : decode cX0_moveTransactions 9 = .ok (.iload_n 2, 1) := by decide +kernel
theorem dX0_moveTransactions_10 : decode cX0_moveTransactions 10 = .ok (.iload_n 3, 1) := by decide +kernel
theorem dX0_moveTransactions_11 : decode cX0_moveTransactions 11 = .ok (.invokestatic 129, 3) := by decide +kernel
theorem dX0_moveTransactions_14 : decode cX0_moveTransactions 14 = .ok (.aload_n 0, 1) := by decide +kernel
theorem dX0_moveTransactions_15 : decode cX0_moveTransactions 15 = .ok (.getfield 36, 3) := by decide +kernel
theorem dX0_moveTransactions_18 : decode cX0_moveTransactions 18 = .ok (.iload_n 1, 1) := by decide +kernel
theorem dX0_moveTransactions_19 : decode cX0_moveTransactions 19 = .ok (.aload_n 0, 1) := by decide +kernel
theorem dX0_moveTransactions_20 : decode cX0_moveTransactions 20 = .ok (.getfield 36, 3) := by decide +kernel
theorem dX0_moveTransactions_23 : decode cX0_moveTransactions 23 = .ok (.iload_n 2, 1) := by decide +kernel
theorem dX0_moveTransactions_24 : decode cX0_moveTransactions 24 = .ok (.iload_n 3, 1) := by decide +kernel
theorem dX0_moveTransactions_25 : decode cX0_moveTransactions 25 = .ok (.invokestatic 129, 3) := by decide +kernel
theorem dX0_moveTransactions_28 : decode cX0_moveTransactions 28 = .ok (.return_, 1) := by decide +kernel
theorem dX0_endRowAt_0 : decode cX0_endRowAt 0 = .ok (.aload_n 0, 1) := by decide +kernel
theorem dX0_endRowAt_1 : decode cX0_endRowAt 1 = .ok (.getfield 20, 3) := by decide +kernel
theorem dX0_endRowAt_4 : decode cX0_endRowAt 4 = .ok (.iload_n 1, 1) := by decide +kernel
theorem dX0_endRowAt_5 : decode cX0_endRowAt 5 = .ok (.iconst 1, 1) := by decide +kernel
theorem dX0_endRowAt_6 : decode cX0_endRowAt 6 = .ok (.iadd, 1) := by decide +kernel
theorem dX0_endRowAt_7 : decode cX0_endRowAt 7 = .ok (.iaload, 1) := by decide +kernel
theorem dX0_endRowAt_8 : decode cX0_endRowAt 8 = .ok (.istore_n 3, 1) := by decide +kernel
theorem dX0_endRowAt_9 : decode cX0_endRowAt 9 = .ok (.aload_n 0, 1) := by decide +kernel
theorem dX0_endRowAt_10 : decode cX0_endRowAt 10 = .ok (.getfield 20, 3) := by decide +kernel
theorem dX0_endRowAt_13 : decode cX0_endRowAt 13 = .ok (.aload_n 0, 1) := by decide +kernel
theorem dX0_endRowAt_14 : decode cX0_endRowAt 14 = .ok (.getfield 9, 3) := by decide +kernel
theorem dX0_endRowAt_17 : decode cX0_endRowAt 17 = .ok (.iaload, 1) := by decide +kernel
theorem dX0_endRowAt_18 : decode cX0_endRowAt 18 = .ok (.istore 4, 2) := by decide +kernel
theorem dX0_endRowAt_20 : decode cX0_endRowAt 20 = .ok (.iload_n 2, 1) := by decide +kernel
theorem dX0_endRowAt_21 : decode cX0_endRowAt 21 = .ok (.iload_n 3, 1) := by decide +kernel
theorem dX0_endRowAt_22 : decode cX0_endRowAt 22 = .ok (.isub, 1) := by decide +kernel
theorem dX0_endRowAt_23 : decode cX0_endRowAt 23 = .ok (.istore 5, 2) := by decide +kernel
theorem dX0_endRowAt_25 : decode cX0_endRowAt 25 = .ok (.aload_n 0, 1) := by decide +kernel
theorem dX0_endRowAt_26 : decode cX0_endRowAt 26 = .ok (.iload 4, 2) := by decide +kernel
theorem dX0_endRowAt_28 : decode cX0_endRowAt 28 = .ok (.iload 5, 2) := by decide +kernel
theorem dX0_endRowAt_30 : decode cX0_endRowAt 30 = .ok (.iadd, 1) := by decide +kernel
theorem dX0_endRowAt_31 : decode cX0_endRowAt 31 = .ok (.invokevirtual 135, 3) := by decide +kernel
theorem dX0_endRowAt_34 : decode cX0_endRowAt 34 = .ok (.aload_n 0, 1) := by decide +kernel
theorem dX0_endRowAt_35 : decode cX0_endRowAt 35 = .ok (.iload_n 3, 1) := by decide +kernel
theorem dX0_endRowAt_36 : decode cX0_endRowAt 36 = .ok (.iload_n 2, 1) := by decide +kernel
theorem dX0_endRowAt_37 : decode cX0_endRowAt 37 = .ok (.iload 4, 2) := by decide +kernel
theorem dX0_endRowAt_39 : decode cX0_endRowAt 39 = .ok (.iload_n 3, 1) := by decide +kernel
theorem dX0_endRowAt_40 : decode cX0_endRowAt 40 = .ok (.isub, 1) := by decide +kernel
theorem dX0_endRowAt_41 : decode cX0_endRowAt 41 = .ok (.invokevirtual 95, 3) := by decide +kernel
theorem dX0_endRowAt_44 : decode cX0_endRowAt 44 = .ok (.iload_n 1, 1) := by decide +kernel
theorem dX0_endRowAt_45 : decode cX0_endRowAt 45 = .ok (.iconst 1, 1) := by decide +kernel
theorem dX0_endRowAt_46 : decode cX0_endRowAt 46 = .ok (.iadd, 1) := by decide +kernel
theorem dX0_endRowAt_47 : decode cX0_endRowAt 47 = .ok (.istore 6, 2) := by decide +kernel
theorem dX0_endRowAt_49 : decode cX0_endRowAt 49 = .ok (.iload 6, 2) := by decide +kernel
theorem dX0_endRowAt_51 : decode cX0_endRowAt 51 = .ok (.aload_n 0, 1) := by decide +kernel
theorem dX0_endRowAt_52 : decode cX0_endRowAt 52 = .ok (.getfield 9, 3) := by decide +kernel
theorem dX0_endRowAt_55 : decode cX0_endRowAt 55 = .ok (.if_icmp .gt 21, 3) := by decide +kernel
theorem dX0_endRowAt_58 : decode cX0_endRowAt 58 = .ok (.aload_n 0, 1) := by decide +kernel
theorem dX0_endRowAt_59 : decode cX0_endRowAt 59 = .ok (.getfield 20, 3) := by decide +kernel
theorem dX0_endRowAt_62 : decode cX0_endRowAt 62 = .ok (.iload 6, 2) := by decide +kernel
theorem dX0_endRowAt_64 : decode cX0_endRowAt 64 = .ok (.dup2, 1) := by decide +kernel
theorem dX0_endRowAt_65 : decode cX0_endRowAt 65 = .ok (.iaload, 1) := by decide +kernel
theorem dX0_endRowAt_66 : decode cX0_endRowAt 66 = .ok (.iload 5, 2) := by decide +kernel
theorem dX0_endRowAt_68 : decode cX0_endRowAt 68 = .ok (.iadd, 1) := by decide +kernel
theorem dX0_endRowAt_69 : decode cX0_endRowAt 69 = .ok (.iastore, 1) := by decide +kernel
theorem dX0_endRowAt_70 : decode cX0_endRowAt 70 = .ok (.iinc 6 1, 3) := by decide +kernel
theorem dX0_endRowAt_73 : decode cX0_endRowAt 73 = .ok (.goto (-24), 3) := by decide +kernel
theorem dX0_endRowAt_76 : decode cX0_endRowAt 76 = .ok (.return_, 1) := by decide +kernel
theorem dX0_makePlaces_0 : decode cX0_makePlaces 0 = .ok (.iload_n 1, 1) := by decide +kernel
theorem dX0_makePlaces_1 : decode cX0_makePlaces 1 = .ok (.aload_n 0, 1) := by decide +kernel
theorem dX0_makePlaces_2 : decode cX0_makePlaces 2 = .ok (.getfield 33, 3) := by decide +kernel
theorem dX0_makePlaces_5 : decode cX0_makePlaces 5 = .ok (.arraylength, 1) := by decide +kernel
theorem dX0_makePlaces_6 : decode cX0_makePlaces 6 = .ok (.if_icmp .gt 4, 3) := by decide +kernel
theorem dX0_makePlaces_9 : decode cX0_makePlaces 9 = .ok (.return_, 1) := by decide +kernel
theorem dX0_makePlaces_10 : decode cX0_makePlaces 10 = .ok (.iload_n 1, 1) := by decide +kernel
theorem dX0_makePlaces_11 : decode cX0_makePlaces 11 = .ok (.aload_n 0, 1) := by decide +kernel
theorem dX0_makePlaces_12 : decode cX0_makePlaces 12 = .ok (.getfield 13, 3) := by decide +kernel
theorem dX0_makePlaces_15 : decode cX0_makePlaces 15 = .ok (.iconst 2, 1) := by decide +kernel
theorem dX0_makePlaces_16 : decode cX0_makePlaces 16 = .ok (.aload_n 0, 1) := by decide +kernel
theorem dX0_makePlaces_17 : decode cX0_makePlaces 17 = .ok (.getfield 33, 3) := by decide +kernel
theorem dX0_makePlaces_20 : decode cX0_makePlaces 20 = .ok (.arraylength, 1) := by decide +kernel
theorem dX0_makePlaces_21 : decode cX0_makePlaces 21 = .ok (.imul, 1) := by decide +kernel
theorem dX0_makePlaces_22 : decode cX0_makePlaces 22 = .ok (.invokestatic 27, 3) := by decide +kernel
theorem dX0_makePlaces_25 : decode cX0_makePlaces 25 = .ok (.invokestatic 138, 3) := by decide +kernel
theorem dX0_makePlaces_28 : decode cX0_makePlaces 28 = .ok (.istore_n 2, 1) := by decide +kernel
theorem dX0_makePlaces_29 : decode cX0_makePlaces 29 = .ok (.aload_n 0, 1) := by decide +kernel
theorem dX0_makePlaces_30 : decode cX0_makePlaces 30 = .ok (.aload_n 0, 1) := by decide +kernel
theorem dX0_makePlaces_31 : decode cX0_makePlaces 31 = .ok (.getfield 33, 3) := by decide +kernel
theorem dX0_makePlaces_34 : decode cX0_makePlaces 34 = .ok (.iload_n 2, 1) := by decide +kernel
theorem dX0_makePlaces_35 : decode cX0_makePlaces 35 = .ok (.invokestatic 141, 3) := by decide +kernel
theorem dX0_makePlaces_38 : decode cX0_makePlaces 38 = .ok (.putfield 33, 3) := by decide +kernel
theorem dX0_makePlaces_41 : decode cX0_makePlaces 41 = .ok (.aload_n 0, 1) := by decide +kernel
theorem dX0_makePlaces_42 : decode cX0_makePlaces 42 = .ok (.aload_n 0, 1) := by decide +kernel
theorem dX0_makePlaces_43 : decode cX0_makePlaces 43 = .ok (.getfield 36, 3) := by decide +kernel
theorem dX0_makePlaces_46 : decode cX0_makePlaces 46 = .ok (.iload_n 2, 1) := by decide +kernel
theorem dX0_makePlaces_47 : decode cX0_makePlaces 47 = .ok (.invokestatic 141, 3) := by decide +kernel
theorem dX0_makePlaces_50 : decode cX0_makePlaces 50 = .ok (.putfield 36, 3) := by decide +kernel
theorem dX0_makePlaces_53 : decode cX0_makePlaces 53 = .ok (.return_, 1) := by decide +kernel
theorem dJ7_copyOf_0 : decode cJ7_copyOf 0 = .ok (.iload_n 1, 1) := by decide +kernel
theorem dJ7_copyOf_1 : decode cJ7_copyOf 1 = .ok (.aload_n 0, 1) := by decide +kernel
theorem dJ7_copyOf_2 : decode cJ7_copyOf 2 = .ok (.arraylength, 1) := by decide +kernel
theorem dJ7_copyOf_3 : decode cJ7_copyOf 3 = .ok (.if_icmp .ne 11, 3) := by decide +kernel
theorem dJ7_copyOf_6 : decode cJ7_copyOf 6 = .ok (.aload_n 0, 1) := by decide +kernel
theorem dJ7_copyOf_7 : decode cJ7_copyOf 7 = .ok (.invokevirtual 319, 3) := by decide +kernel
theorem dJ7_copyOf_10 : decode cJ7_copyOf 10 = .ok (.checkcast 320, 3) := by decide +kernel
theorem dJ7_copyOf_13 : decode cJ7_copyOf 13 = .ok (.areturn, 1) := by decide +kernel
theorem dJ7_copyOf_14 : decode cJ7_copyOf 14 = .ok (.iload_n 1, 1) := by decide +kernel
theorem dJ7_copyOf_15 : decode cJ7_copyOf 15 = .ok (.newarray .long, 2) := by decide +kernel
theorem dJ7_copyOf_17 : decode cJ7_copyOf 17 = .ok (.astore_n 2, 1) := by decide +kernel
theorem dJ7_copyOf_18 : decode cJ7_copyOf 18 = .ok (.aload_n 0, 1) := by decide +kernel
theorem dJ7_copyOf_19 : decode cJ7_copyOf 19 = .ok (.iconst 0, 1) := by decide +kernel
theorem dJ7_copyOf_20 : decode cJ7_copyOf 20 = .ok (.aload_n 2, 1) := by decide +kernel
theorem dJ7_copyOf_21 : decode cJ7_copyOf 21 = .ok (.iconst 0, 1) := by decide +kernel
theorem dJ7_copyOf_22 : decode cJ7_copyOf 22 = .ok (.aload_n 0, 1) := by decide +kernel
theorem dJ7_copyOf_23 : decode cJ7_copyOf 23 = .ok (.arraylength, 1) := by decide +kernel
theorem dJ7_copyOf_24 : decode cJ7_copyOf 24 = .ok (.iload_n 1, 1) := by decide +kernel
theorem dJ7_copyOf_25 : decode cJ7_copyOf 25 = .ok (.invokestatic 304, 3) := by decide +kernel
theorem dJ7_copyOf_28 : decode cJ7_copyOf 28 = .ok (.invokestatic 150, 3) := by decide +kernel
theorem dJ7_copyOf_31 : decode cJ7_copyOf 31 = .ok (.aload_n 2, 1) := by decide +kernel
theorem dJ7_copyOf_32 : decode cJ7_copyOf 32 = .ok (.areturn, 1) := by decide +kernel
theorem dX0_writeElements_0 : decode cX0_writeElements 0 = .ok (.iconst 0, 1) := by decide +kernel
theorem dX0_writeElements_1 : decode cX0_writeElements 1 = .ok (.istore_n 2, 1) := by decide +kernel
theorem dX0_writeElements_2 : decode cX0_writeElements 2 = .ok (.iload_n 2, 1) := by decide +kernel
theorem dX0_writeElements_3 : decode cX0_writeElements 3 = .ok (.aload_n 0, 1) := by decide +kernel
theorem dX0_writeElements_4 : decode cX0_writeElements 4 = .ok (.getfield 54, 3) := by decide +kernel
theorem dX0_writeElements_7 : decode cX0_writeElements 7 = .ok (.if_icmp .ge 42, 3) := by decide +kernel
theorem dX0_writeElements_10 : decode cX0_writeElements 10 = .ok (.aload_n 0, 1) := by decide +kernel
theorem dX0_writeElements_11 : decode cX0_writeElements 11 = .ok (.getfield 33, 3) := by decide +kernel
theorem dX0_writeElements_14 : decode cX0_writeElements 14 = .ok (.iload_n 1, 1) := by decide +kernel
theorem dX0_writeElements_15 : decode cX0_writeElements 15 = .ok (.iload_n 2, 1) := by decide +kernel
theorem dX0_writeElements_16 : decode cX0_writeElements 16 = .ok (.iadd, 1) := by decide +kernel
theorem dX0_writeElements_17 : decode cX0_writeElements 17 = .ok (.aload_n 0, 1) := by decide +kernel
theorem dX0_writeElements_18 : decode cX0_writeElements 18 = .ok (.getfield 78, 3) := by decide +kernel
theorem dX0_writeElements_21 : decode cX0_writeElements 21 = .ok (.aload_n 0, 1) := by decide +kernel
theorem dX0_writeElements_22 : decode cX0_writeElements 22 = .ok (.getfield 42, 3) := by decide +kernel
theorem dX0_writeElements_25 : decode cX0_writeElements 25 = .ok (.iload_n 2, 1) := by decide +kernel
theorem dX0_writeElements_26 : decode cX0_writeElements 26 = .ok (.laload, 1) := by decide +kernel
theorem dX0_writeElements_27 : decode cX0_writeElements 27 = .ok (.ladd, 1) := by decide +kernel
theorem dX0_writeElements_28 : decode cX0_writeElements 28 = .ok (.lastore, 1) := by decide +kernel
theorem dX0_writeElements_29 : decode cX0_writeElements 29 = .ok (.aload_n 0, 1) := by decide +kernel
theorem dX0_writeElements_30 : decode cX0_writeElements 30 = .ok (.getfield 36, 3) := by decide +kernel
theorem dX0_writeElements_33 : decode cX0_writeElements 33 = .ok (.iload_n 1, 1) := by decide +kernel
theorem dX0_writeElements_34 : decode cX0_writeElements 34 = .ok (.iload_n 2, 1) := by decide +kernel
theorem dX0_writeElements_35 : decode cX0_writeElements 35 = .ok (.iadd, 1) := by decide +kernel
theorem dX0_writeElements_36 : decode cX0_writeElements 36 = .ok (.aload_n 0, 1) := by decide +kernel
theorem dX0_writeElements_37 : decode cX0_writeElements 37 = .ok (.getfield 39, 3) := by decide +kernel
theorem dX0_writeElements_40 : decode cX0_writeElements 40 = .ok (.iload_n 2, 1) := by decide +kernel
theorem dX0_writeElements_41 : decode cX0_writeElements 41 = .ok (.laload, 1) := by decide +kernel
theorem dX0_writeElements_42 : decode cX0_writeElements 42 = .ok (.lastore, 1) := by decide +kernel
theorem dX0_writeElements_43 : decode cX0_writeElements 43 = .ok (.iinc 2 1, 3) := by decide +kernel
theorem dX0_writeElements_46 : decode cX0_writeElements 46 = .ok (.goto (-44), 3) := by decide +kernel
theorem dX0_writeElements_49 : decode cX0_writeElements 49 = .ok (.return_, 1) := by decide +kernel
theorem dL_start_0 : decode cL_start 0 = .ok (.aload 4, 2) := by decide +kernel
theorem dL_start_2 : decode cL_start 2 = .ok (.iconst 0, 1) := by decide +kernel
theorem dL_start_3 : decode cL_start 3 = .ok (.aload_n 0, 1) := by decide +kernel
theorem dL_start_4 : decode cL_start 4 = .ok (.iload_n 1, 1) := by decide +kernel
theorem dL_start_5 : decode cL_start 5 = .ok (.lload_n 2, 1) := by decide +kernel
theorem dL_start_6 : decode cL_start 6 = .ok (.invokevirtual 23, 3) := by decide +kernel
theorem dL_start_9 : decode cL_start 9 = .ok (.i2l, 1) := by decide +kernel
theorem dL_start_10 : decode cL_start 10 = .ok (.lastore, 1) := by decide +kernel
theorem dL_start_11 : decode cL_start 11 = .ok (.goto 7, 3) := by decide +kernel
theorem dL_start_14 : decode cL_start 14 = .ok (.astore 5, 2) := by decide +kernel
theorem dL_start_16 : decode cL_start 16 = .ok (.iconst 1, 1) := by decide +kernel
theorem dL_start_17 : decode cL_start 17 = .ok (.ireturn, 1) := by decide +kernel
theorem dL_start_18 : decode cL_start 18 = .ok (.iconst 0, 1) := by decide +kernel
theorem dL_start_19 : decode cL_start 19 = .ok (.ireturn, 1) := by decide +kernel
theorem dX0_start_0 : decode cX0_start 0 = .ok (.aload_n 0, 1) := by decide +kernel
theorem dX0_start_1 : decode cX0_start 1 = .ok (.iload_n 1, 1) := by decide +kernel
theorem dX0_start_2 : decode cX0_start 2 = .ok (.invokevirtual 62, 3) := by decide +kernel
theorem dX0_start_5 : decode cX0_start 5 = .ok (.aload_n 0, 1) := by decide +kernel
theorem dX0_start_6 : decode cX0_start 6 = .ok (.iload_n 1, 1) := by decide +kernel
theorem dX0_start_7 : decode cX0_start 7 = .ok (.invokevirtual 106, 3) := by decide +kernel
theorem dX0_start_10 : decode cX0_start 10 = .ok (.istore 4, 2) := by decide +kernel
theorem dX0_start_12 : decode cX0_start 12 = .ok (.aload_n 0, 1) := by decide +kernel
theorem dX0_start_13 : decode cX0_start 13 = .ok (.getfield 16, 3) := by decide +kernel
theorem dX0_start_16 : decode cX0_start 16 = .ok (.iload_n 1, 1) := by decide +kernel
theorem dX0_start_17 : decode cX0_start 17 = .ok (.lload_n 2, 1) := by decide +kernel
theorem dX0_start_18 : decode cX0_start 18 = .ok (.lastore, 1) := by decide +kernel
theorem dX0_start_19 : decode cX0_start 19 = .ok (.aload_n 0, 1) := by decide +kernel
theorem dX0_start_20 : decode cX0_start 20 = .ok (.iload_n 1, 1) := by decide +kernel
theorem dX0_start_21 : decode cX0_start 21 = .ok (.aload_n 0, 1) := by decide +kernel
theorem dX0_start_22 : decode cX0_start 22 = .ok (.getfield 20, 3) := by decide +kernel
theorem dX0_start_25 : decode cX0_start 25 = .ok (.iload_n 1, 1) := by decide +kernel
theorem dX0_start_26 : decode cX0_start 26 = .ok (.iaload, 1) := by decide +kernel
theorem dX0_start_27 : decode cX0_start 27 = .ok (.invokevirtual 99, 3) := by decide +kernel
theorem dX0_start_30 : decode cX0_start 30 = .ok (.iload 4, 2) := by decide +kernel
theorem dX0_start_32 : decode cX0_start 32 = .ok (.ireturn, 1) := by decide +kernel
theorem dL_advance_0 : decode cL_advance 0 = .ok (.aload_n 3, 1) := by decide +kernel
theorem dL_advance_1 : decode cL_advance 1 = .ok (.iconst 0, 1) := by decide +kernel
theorem dL_advance_2 : decode cL_advance 2 = .ok (.aload_n 0, 1) := by decide +kernel
theorem dL_advance_3 : decode cL_advance 3 = .ok (.lload_n 1, 1) := by decide +kernel
theorem dL_advance_4 : decode cL_advance 4 = .ok (.invokevirtual 27, 3) := by decide +kernel
theorem dL_advance_7 : decode cL_advance 7 = .ok (.i2l, 1) := by decide +kernel
theorem dL_advance_8 : decode cL_advance 8 = .ok (.lastore, 1) := by decide +kernel
theorem dL_advance_9 : decode cL_advance 9 = .ok (.goto 7, 3) := by decide +kernel
theorem dL_advance_12 : decode cL_advance 12 = .ok (.astore 4, 2) := by decide +kernel
theorem dL_advance_14 : decode cL_advance 14 = .ok (.iconst 1, 1) := by decide +kernel
theorem dL_advance_15 : decode cL_advance 15 = .ok (.ireturn, 1) := by decide +kernel
theorem dL_advance_16 : decode cL_advance 16 = .ok (.iconst 0, 1) := by decide +kernel
theorem dL_advance_17 : decode cL_advance 17 = .ok (.ireturn, 1) := by decide +kernel
theorem dX0_advance_0 : decode cX0_advance 0 = .ok (.lload_n 1, 1) := by decide +kernel
theorem dX0_advance_1 : decode cX0_advance 1 = .ok (.aload_n 0, 1) := by decide +kernel
theorem dX0_advance_2 : decode cX0_advance 2 = .ok (.getfield 78, 3) := by decide +kernel
theorem dX0_advance_5 : decode cX0_advance 5 = .ok (.lcmp, 1) := by decide +kernel
theorem dX0_advance_6 : decode cX0_advance 6 = .ok (.ifCond .lt 11, 3) := by decide +kernel
theorem dX0_advance_9 : decode cX0_advance 9 = .ok (.lload_n 1, 1) := by decide +kernel
theorem dX0_advance_10 : decode cX0_advance 10 = .ok (.ldc2_w 45, 3) := by decide +kernel
theorem dX0_advance_13 : decode cX0_advance 13 = .ok (.lcmp, 1) := by decide +kernel
theorem dX0_advance_14 : decode cX0_advance 14 = .ok (.ifCond .le 13, 3) := by decide +kernel
theorem dX0_advance_17 : decode cX0_advance 17 = .ok (.new 47, 3) := by decide +kernel
theorem dX0_advance_20 : decode cX0_advance 20 = .ok (.dup, 1) := by decide +kernel
theorem dX0_advance_21 : decode cX0_advance 21 = .ok (.ldc 110, 2) := by decide +kernel
theorem dX0_advance_23 : decode cX0_advance 23 = .ok (.invokespecial 51, 3) := by decide +kernel
theorem dX0_advance_26 : decode cX0_advance 26 = .ok (.athrow, 1) := by decide +kernel
theorem dX0_advance_27 : decode cX0_advance 27 = .ok (.aload_n 0, 1) := by decide +kernel
theorem dX0_advance_28 : decode cX0_advance 28 = .ok (.lload_n 1, 1) := by decide +kernel
theorem dX0_advance_29 : decode cX0_advance 29 = .ok (.putfield 78, 3) := by decide +kernel
theorem dX0_advance_32 : decode cX0_advance 32 = .ok (.aload_n 0, 1) := by decide +kernel
theorem dX0_advance_33 : decode cX0_advance 33 = .ok (.iconst 0, 1) := by decide +kernel
theorem dX0_advance_34 : decode cX0_advance 34 = .ok (.putfield 112, 3) := by decide +kernel
theorem dX0_advance_37 : decode cX0_advance 37 = .ok (.iconst 0, 1) := by decide +kernel
theorem dX0_advance_38 : decode cX0_advance 38 = .ok (.istore_n 3, 1) := by decide +kernel
theorem dX0_advance_39 : decode cX0_advance 39 = .ok (.iconst 0, 1) := by decide +kernel
theorem dX0_advance_40 : decode cX0_advance 40 = .ok (.istore 4, 2) := by decide +kernel
theorem dX0_advance_42 : decode cX0_advance 42 = .ok (.iconst 0, 1) := by decide +kernel
theorem dX0_advance_43 : decode cX0_advance 43 = .ok (.istore 5, 2) := by decide +kernel
theorem dX0_advance_45 : decode cX0_advance 45 = .ok (.iload 5, 2) := by decide +kernel
theorem dX0_advance_47 : decode cX0_advance 47 = .ok (.aload_n 0, 1) := by decide +kernel
theorem dX0_advance_48 : decode cX0_advance 48 = .ok (.getfield 9, 3) := by decide +kernel
theorem dX0_advance_51 : decode cX0_advance 51 = .ok (.if_icmp .ge 108, 3) := by decide +kernel
theorem dX0_advance_54 : decode cX0_advance 54 = .ok (.aload_n 0, 1) := by decide +kernel
theorem dX0_advance_55 : decode cX0_advance 55 = .ok (.getfield 20, 3) := by decide +kernel
theorem dX0_advance_58 : decode cX0_advance 58 = .ok (.iload 5, 2) := by decide +kernel
theorem dX0_advance_60 : decode cX0_advance 60 = .ok (.iconst 1, 1) := by decide +kernel
theorem dX0_advance_61 : decode cX0_advance 61 = .ok (.iadd, 1) := by decide +kernel
theorem dX0_advance_62 : decode cX0_advance 62 = .ok (.iaload, 1) := by decide +kernel
theorem dX0_advance_63 : decode cX0_advance 63 = .ok (.istore 6, 2) := by decide +kernel
theorem dX0_advance_65 : decode cX0_advance 65 = .ok (.aload_n 0, 1) := by decide +kernel
theorem dX0_advance_66 : decode cX0_advance 66 = .ok (.iload_n 3, 1) := by decide +kernel
theorem dX0_advance_67 : decode cX0_advance 67 = .ok (.iload 6, 2) := by decide +kernel
theorem dX0_advance_69 : decode cX0_advance 69 = .ok (.lload_n 1, 1) := by decide +kernel
theorem dX0_advance_70 : decode cX0_advance 70 = .ok (.invokevirtual 82, 3) := by decide +kernel
theorem dX0_advance_73 : decode cX0_advance 73 = .ok (.istore 7, 2) := by decide +kernel
theorem dX0_advance_75 : decode cX0_advance 75 = .ok (.iload 7, 2) := by decide +kernel
theorem dX0_advance_77 : decode cX0_advance 77 = .ok (.iload_n 3, 1) := by decide +kernel
theorem dX0_advance_78 : decode cX0_advance 78 = .ok (.if_icmp .le 40, 3) := by decide +kernel
theorem dX0_advance_81 : decode cX0_advance 81 = .ok (.aload_n 0, 1) := by decide +kernel
theorem dX0_advance_82 : decode cX0_advance 82 = .ok (.getfield 16, 3) := by decide +kernel
theorem dX0_advance_85 : decode cX0_advance 85 = .ok (.iload 5, 2) := by decide +kernel
theorem dX0_advance_87 : decode cX0_advance 87 = .ok (.aload_n 0, 1) := by decide +kernel
theorem dX0_advance_88 : decode cX0_advance 88 = .ok (.getfield 36, 3) := by decide +kernel
theorem dX0_advance_91 : decode cX0_advance 91 = .ok (.iload 7, 2) := by decide +kernel
theorem dX0_advance_93 : decode cX0_advance 93 = .ok (.iconst 1, 1) := by decide +kernel
theorem dX0_advance_94 : decode cX0_advance 94 = .ok (.isub, 1) := by decide +kernel
theorem dX0_advance_95 : decode cX0_advance 95 = .ok (.laload, 1) := by decide +kernel
theorem dX0_advance_96 : decode cX0_advance 96 = .ok (.lastore, 1) := by decide +kernel
theorem dX0_advance_97 : decode cX0_advance 97 = .ok (.aload_n 0, 1) := by decide +kernel
theorem dX0_advance_98 : decode cX0_advance 98 = .ok (.getfield 24, 3) := by decide +kernel
theorem dX0_advance_101 : decode cX0_advance 101 = .ok (.aload_n 0, 1) := by decide +kernel
theorem dX0_advance_102 : decode cX0_advance 102 = .ok (.getfield 112, 3) := by decide +kernel
theorem dX0_advance_105 : decode cX0_advance 105 = .ok (.iload 5, 2) := by decide +kernel
theorem dX0_advance_107 : decode cX0_advance 107 = .ok (.iastore, 1) := by decide +kernel
theorem dX0_advance_108 : decode cX0_advance 108 = .ok (.aload_n 0, 1) := by decide +kernel
theorem dX0_advance_109 : decode cX0_advance 109 = .ok (.dup, 1) := by decide +kernel
theorem dX0_advance_110 : decode cX0_advance 110 = .ok (.getfield 112, 3) := by decide +kernel
theorem dX0_advance_113 : decode cX0_advance 113 = .ok (.iconst 1, 1) := by decide +kernel
theorem dX0_advance_114 : decode cX0_advance 114 = .ok (.iadd, 1) := by decide +kernel
theorem dX0_advance_115 : decode cX0_advance 115 = .ok (.putfield 112, 3) := by decide +kernel
theorem dX0_advance_118 : decode cX0_advance 118 = .ok (.aload_n 0, 1) := by decide +kernel
theorem dX0_advance_119 : decode cX0_advance 119 = .ok (.iload 7, 2) := by decide +kernel
theorem dX0_advance_121 : decode cX0_advance 121 = .ok (.iload 4, 2) := by decide +kernel
theorem dX0_advance_123 : decode cX0_advance 123 = .ok (.iload 6, 2) := by decide +kernel
theorem dX0_advance_125 : decode cX0_advance 125 = .ok (.iload 7, 2) := by decide +kernel
theorem dX0_advance_127 : decode cX0_advance 127 = .ok (.isub, 1) := by decide +kernel
theorem dX0_advance_128 : decode cX0_advance 128 = .ok (.invokevirtual 95, 3) := by decide +kernel
theorem dX0_advance_131 : decode cX0_advance 131 = .ok (.aload_n 0, 1) := by decide +kernel
theorem dX0_advance_132 : decode cX0_advance 132 = .ok (.getfield 20, 3) := by decide +kernel
theorem dX0_advance_135 : decode cX0_advance 135 = .ok (.iload 5, 2) := by decide +kernel
theorem dX0_advance_137 : decode cX0_advance 137 = .ok (.iload 4, 2) := by decide +kernel
theorem dX0_advance_139 : decode cX0_advance 139 = .ok (.iastore, 1) := by decide +kernel
theorem dX0_advance_140 : decode cX0_advance 140 = .ok (.iload 4, 2) := by decide +kernel
theorem dX0_advance_142 : decode cX0_advance 142 = .ok (.iload 6, 2) := by decide +kernel
theorem dX0_advance_144 : decode cX0_advance 144 = .ok (.iload 7, 2) := by decide +kernel
theorem dX0_advance_146 : decode cX0_advance 146 = .ok (.isub, 1) := by decide +kernel
theorem dX0_advance_147 : decode cX0_advance 147 = .ok (.iadd, 1) := by decide +kernel
theorem dX0_advance_148 : decode cX0_advance 148 = .ok (.istore 4, 2) := by decide +kernel
theorem dX0_advance_150 : decode cX0_advance 150 = .ok (.iload 6, 2) := by decide +kernel
theorem dX0_advance_152 : decode cX0_advance 152 = .ok (.istore_n 3, 1) := by decide +kernel
theorem dX0_advance_153 : decode cX0_advance 153 = .ok (.iinc 5 1, 3) := by decide +kernel
theorem dX0_advance_156 : decode cX0_advance 156 = .ok (.goto (-111), 3) := by decide +kernel
theorem dX0_advance_159 : decode cX0_advance 159 = .ok (.aload_n 0, 1) := by decide +kernel
theorem dX0_advance_160 : decode cX0_advance 160 = .ok (.getfield 20, 3) := by decide +kernel
theorem dX0_advance_163 : decode cX0_advance 163 = .ok (.aload_n 0, 1) := by decide +kernel
theorem dX0_advance_164 : decode cX0_advance 164 = .ok (.getfield 9, 3) := by decide +kernel
theorem dX0_advance_167 : decode cX0_advance 167 = .ok (.iload 4, 2) := by decide +kernel
theorem dX0_advance_169 : decode cX0_advance 169 = .ok (.iastore, 1) := by decide +kernel
theorem dX0_advance_170 : decode cX0_advance 170 = .ok (.aload_n 0, 1) := by decide +kernel
theorem dX0_advance_171 : decode cX0_advance 171 = .ok (.getfield 112, 3) := by decide +kernel
theorem dX0_advance_174 : decode cX0_advance 174 = .ok (.ireturn, 1) := by decide +kernel
theorem dL_value_0 : decode cL_value 0 = .ok (.aload_n 2, 1) := by decide +kernel
theorem dL_value_1 : decode cL_value 1 = .ok (.iconst 0, 1) := by decide +kernel
theorem dL_value_2 : decode cL_value 2 = .ok (.aload_n 0, 1) := by decide +kernel
theorem dL_value_3 : decode cL_value 3 = .ok (.iload_n 1, 1) := by decide +kernel
theorem dL_value_4 : decode cL_value 4 = .ok (.invokevirtual 31, 3) := by decide +kernel
theorem dL_value_7 : decode cL_value 7 = .ok (.lastore, 1) := by decide +kernel
theorem dL_value_8 : decode cL_value 8 = .ok (.goto 6, 3) := by decide +kernel
theorem dL_value_11 : decode cL_value 11 = .ok (.astore_n 3, 1) := by decide +kernel
theorem dL_value_12 : decode cL_value 12 = .ok (.iconst 1, 1) := by decide +kernel
theorem dL_value_13 : decode cL_value 13 = .ok (.ireturn, 1) := by decide +kernel
theorem dL_value_14 : decode cL_value 14 = .ok (.iconst 0, 1) := by decide +kernel
theorem dL_value_15 : decode cL_value 15 = .ok (.ireturn, 1) := by decide +kernel
theorem dX0_value_0 : decode cX0_value 0 = .ok (.aload_n 0, 1) := by decide +kernel
theorem dX0_value_1 : decode cX0_value 1 = .ok (.iload_n 1, 1) := by decide +kernel
theorem dX0_value_2 : decode cX0_value 2 = .ok (.invokevirtual 62, 3) := by decide +kernel
theorem dX0_value_5 : decode cX0_value 5 = .ok (.aload_n 0, 1) := by decide +kernel
theorem dX0_value_6 : decode cX0_value 6 = .ok (.getfield 16, 3) := by decide +kernel
theorem dX0_value_9 : decode cX0_value 9 = .ok (.iload_n 1, 1) := by decide +kernel
theorem dX0_value_10 : decode cX0_value 10 = .ok (.laload, 1) := by decide +kernel
theorem dX0_value_11 : decode cX0_value 11 = .ok (.lreturn, 1) := by decide +kernel
theorem dL_count_0 : decode cL_count 0 = .ok (.aload_n 2, 1) := by decide +kernel
theorem dL_count_1 : decode cL_count 1 = .ok (.iconst 0, 1) := by decide +kernel
theorem dL_count_2 : decode cL_count 2 = .ok (.aload_n 0, 1) := by decide +kernel
theorem dL_count_3 : decode cL_count 3 = .ok (.iload_n 1, 1) := by decide +kernel
theorem dL_count_4 : decode cL_count 4 = .ok (.invokevirtual 35, 3) := by decide +kernel
theorem dL_count_7 : decode cL_count 7 = .ok (.i2l, 1) := by decide +kernel
theorem dL_count_8 : decode cL_count 8 = .ok (.lastore, 1) := by decide +kernel
theorem dL_count_9 : decode cL_count 9 = .ok (.goto 6, 3) := by decide +kernel
theorem dL_count_12 : decode cL_count 12 = .ok (.astore_n 3, 1) := by decide +kernel
theorem dL_count_13 : decode cL_count 13 = .ok (.iconst 1, 1) := by decide +kernel
theorem dL_count_14 : decode cL_count 14 = .ok (.ireturn, 1) := by decide +kernel
theorem dL_count_15 : decode cL_count 15 = .ok (.iconst 0, 1) := by decide +kernel
theorem dL_count_16 : decode cL_count 16 = .ok (.ireturn, 1) := by decide +kernel
theorem dX0_count_0 : decode cX0_count 0 = .ok (.aload_n 0, 1) := by decide +kernel
theorem dX0_count_1 : decode cX0_count 1 = .ok (.iload_n 1, 1) := by decide +kernel
theorem dX0_count_2 : decode cX0_count 2 = .ok (.invokevirtual 62, 3) := by decide +kernel
theorem dX0_count_5 : decode cX0_count 5 = .ok (.aload_n 0, 1) := by decide +kernel
theorem dX0_count_6 : decode cX0_count 6 = .ok (.iload_n 1, 1) := by decide +kernel
theorem dX0_count_7 : decode cX0_count 7 = .ok (.invokevirtual 106, 3) := by decide +kernel
theorem dX0_count_10 : decode cX0_count 10 = .ok (.ireturn, 1) := by decide +kernel
theorem dL_at_0 : decode cL_at 0 = .ok (.aload 4, 2) := by decide +kernel
theorem dL_at_2 : decode cL_at 2 = .ok (.iconst 0, 1) := by decide +kernel
theorem dL_at_3 : decode cL_at 3 = .ok (.aload_n 0, 1) := by decide +kernel
theorem dL_at_4 : decode cL_at 4 = .ok (.iload_n 1, 1) := by decide +kernel
theorem dL_at_5 : decode cL_at 5 = .ok (.iload_n 2, 1) := by decide +kernel
theorem dL_at_6 : decode cL_at 6 = .ok (.iload_n 3, 1) := by decide +kernel
theorem dL_at_7 : decode cL_at 7 = .ok (.invokevirtual 39, 3) := by decide +kernel
theorem dL_at_10 : decode cL_at 10 = .ok (.lastore, 1) := by decide +kernel
theorem dL_at_11 : decode cL_at 11 = .ok (.goto 7, 3) := by decide +kernel
theorem dL_at_14 : decode cL_at 14 = .ok (.astore 5, 2) := by decide +kernel
theorem dL_at_16 : decode cL_at 16 = .ok (.iconst 1, 1) := by decide +kernel
theorem dL_at_17 : decode cL_at 17 = .ok (.ireturn, 1) := by decide +kernel
theorem dL_at_18 : decode cL_at 18 = .ok (.iconst 0, 1) := by decide +kernel
theorem dL_at_19 : decode cL_at 19 = .ok (.ireturn, 1) := by decide +kernel
theorem dX0_at_0 : decode cX0_at 0 = .ok (.aload_n 0, 1) := by decide +kernel
theorem dX0_at_1 : decode cX0_at 1 = .ok (.iload_n 1, 1) := by decide +kernel
theorem dX0_at_2 : decode cX0_at 2 = .ok (.invokevirtual 62, 3) := by decide +kernel
theorem dX0_at_5 : decode cX0_at 5 = .ok (.iload_n 2, 1) := by decide +kernel
theorem dX0_at_6 : decode cX0_at 6 = .ok (.ifCond .lt 12, 3) := by decide +kernel
theorem dX0_at_9 : decode cX0_at 9 = .ok (.iload_n 2, 1) := by decide +kernel
theorem dX0_at_10 : decode cX0_at 10 = .ok (.aload_n 0, 1) := by decide +kernel
theorem dX0_at_11 : decode cX0_at 11 = .ok (.iload_n 1, 1) := by decide +kernel
theorem dX0_at_12 : decode cX0_at 12 = .ok (.invokevirtual 106, 3) := by decide +kernel
theorem dX0_at_15 : decode cX0_at 15 = .ok (.if_icmp .lt 13, 3) := by decide +kernel
theorem dX0_at_18 : decode cX0_at 18 = .ok (.new 120, 3) := by decide +kernel
theorem dX0_at_21 : decode cX0_at 21 = .ok (.dup, 1) := by decide +kernel
theorem dX0_at_22 : decode cX0_at 22 = .ok (.ldc 122, 2) := by decide +kernel
theorem dX0_at_24 : decode cX0_at 24 = .ok (.invokespecial 124, 3) := by decide +kernel
theorem dX0_at_27 : decode cX0_at 27 = .ok (.athrow, 1) := by decide +kernel
theorem dX0_at_28 : decode cX0_at 28 = .ok (.aload_n 0, 1) := by decide +kernel
theorem dX0_at_29 : decode cX0_at 29 = .ok (.getfield 20, 3) := by decide +kernel
theorem dX0_at_32 : decode cX0_at 32 = .ok (.iload_n 1, 1) := by decide +kernel
theorem dX0_at_33 : decode cX0_at 33 = .ok (.iaload, 1) := by decide +kernel
theorem dX0_at_34 : decode cX0_at 34 = .ok (.iload_n 2, 1) := by decide +kernel
theorem dX0_at_35 : decode cX0_at 35 = .ok (.iadd, 1) := by decide +kernel
theorem dX0_at_36 : decode cX0_at 36 = .ok (.istore 4, 2) := by decide +kernel
theorem dX0_at_38 : decode cX0_at 38 = .ok (.iload_n 3, 1) := by decide +kernel
theorem dX0_at_39 : decode cX0_at 39 = .ok (.ifCond .eq 13, 3) := by decide +kernel
theorem dX0_at_42 : decode cX0_at 42 = .ok (.aload_n 0, 1) := by decide +kernel
theorem dX0_at_43 : decode cX0_at 43 = .ok (.getfield 33, 3) := by decide +kernel
theorem dX0_at_46 : decode cX0_at 46 = .ok (.iload 4, 2) := by decide +kernel
theorem dX0_at_48 : decode cX0_at 48 = .ok (.laload, 1) := by decide +kernel
theorem dX0_at_49 : decode cX0_at 49 = .ok (.goto 10, 3) := by decide +kernel
theorem dX0_at_52 : decode cX0_at 52 = .ok (.aload_n 0, 1) := by decide +kernel
theorem dX0_at_53 : decode cX0_at 53 = .ok (.getfield 36, 3) := by decide +kernel
theorem dX0_at_56 : decode cX0_at 56 = .ok (.iload 4, 2) := by decide +kernel
theorem dX0_at_58 : decode cX0_at 58 = .ok (.laload, 1) := by decide +kernel
theorem dX0_at_59 : decode cX0_at 59 = .ok (.lreturn, 1) := by decide +kernel
theorem dL_projected_0 : decode cL_projected 0 = .ok (.aload 4, 2) := by decide +kernel
theorem dL_projected_2 : decode cL_projected 2 = .ok (.iconst 0, 1) := by decide +kernel
theorem dL_projected_3 : decode cL_projected 3 = .ok (.aload_n 0, 1) := by decide +kernel
theorem dL_projected_4 : decode cL_projected 4 = .ok (.iload_n 1, 1) := by decide +kernel
theorem dL_projected_5 : decode cL_projected 5 = .ok (.lload_n 2, 1) := by decide +kernel
theorem dL_projected_6 : decode cL_projected 6 = .ok (.invokevirtual 43, 3) := by decide +kernel
theorem dL_projected_9 : decode cL_projected 9 = .ok (.lastore, 1) := by decide +kernel
theorem dL_projected_10 : decode cL_projected 10 = .ok (.goto 11, 3) := by decide +kernel
theorem dL_projected_13 : decode cL_projected 13 = .ok (.astore 5, 2) := by decide +kernel
theorem dL_projected_15 : decode cL_projected 15 = .ok (.iconst 1, 1) := by decide +kernel
theorem dL_projected_16 : decode cL_projected 16 = .ok (.ireturn, 1) := by decide +kernel
theorem dL_projected_17 : decode cL_projected 17 = .ok (.astore 5, 2) := by decide +kernel
theorem dL_projected_19 : decode cL_projected 19 = .ok (.iconst 2, 1) := by decide +kernel
theorem dL_projected_20 : decode cL_projected 20 = .ok (.ireturn, 1) := by decide +kernel
theorem dL_projected_21 : decode cL_projected 21 = .ok (.iconst 0, 1) := by decide +kernel
theorem dL_projected_22 : decode cL_projected 22 = .ok (.ireturn, 1) := by decide +kernel
theorem dX0_projected_0 : decode cX0_projected 0 = .ok (.aload_n 0, 1) := by decide +kernel
theorem dX0_projected_1 : decode cX0_projected 1 = .ok (.iload_n 1, 1) := by decide +kernel
theorem dX0_projected_2 : decode cX0_projected 2 = .ok (.invokevirtual 62, 3) := by decide +kernel
theorem dX0_projected_5 : decode cX0_projected 5 = .ok (.lload_n 2, 1) := by decide +kernel
theorem dX0_projected_6 : decode cX0_projected 6 = .ok (.aload_n 0, 1) := by decide +kernel
theorem dX0_projected_7 : decode cX0_projected 7 = .ok (.getfield 78, 3) := by decide +kernel
theorem dX0_projected_10 : decode cX0_projected 10 = .ok (.lcmp, 1) := by decide +kernel
theorem dX0_projected_11 : decode cX0_projected 11 = .ok (.ifCond .ge 13, 3) := by decide +kernel
theorem dX0_projected_14 : decode cX0_projected 14 = .ok (.new 47, 3) := by decide +kernel
theorem dX0_projected_17 : decode cX0_projected 17 = .ok (.dup, 1) := by decide +kernel
theorem dX0_projected_18 : decode cX0_projected 18 = .ok (.ldc 125, 2) := by decide +kernel
theorem dX0_projected_20 : decode cX0_projected 20 = .ok (.invokespecial 51, 3) := by decide +kernel
theorem dX0_projected_23 : decode cX0_projected 23 = .ok (.athrow, 1) := by decide +kernel
theorem dX0_projected_24 : decode cX0_projected 24 = .ok (.aload_n 0, 1) := by decide +kernel
theorem dX0_projected_25 : decode cX0_projected 25 = .ok (.getfield 20, 3) := by decide +kernel
theorem dX0_projected_28 : decode cX0_projected 28 = .ok (.iload_n 1, 1) := by decide +kernel
theorem dX0_projected_29 : decode cX0_projected 29 = .ok (.iaload, 1) := by decide +kernel
theorem dX0_projected_30 : decode cX0_projected 30 = .ok (.istore 4, 2) := by decide +kernel
theorem dX0_projected_32 : decode cX0_projected 32 = .ok (.aload_n 0, 1) := by decide +kernel
theorem dX0_projected_33 : decode cX0_projected 33 = .ok (.iload 4, 2) := by decide +kernel
theorem dX0_projected_35 : decode cX0_projected 35 = .ok (.aload_n 0, 1) := by decide +kernel
theorem dX0_projected_36 : decode cX0_projected 36 = .ok (.getfield 20, 3) := by decide +kernel
theorem dX0_projected_39 : decode cX0_projected 39 = .ok (.iload_n 1, 1) := by decide +kernel
theorem dX0_projected_40 : decode cX0_projected 40 = .ok (.iconst 1, 1) := by decide +kernel
theorem dX0_projected_41 : decode cX0_projected 41 = .ok (.iadd, 1) := by decide +kernel
theorem dX0_projected_42 : decode cX0_projected 42 = .ok (.iaload, 1) := by decide +kernel
theorem dX0_projected_43 : decode cX0_projected 43 = .ok (.lload_n 2, 1) := by decide +kernel
theorem dX0_projected_44 : decode cX0_projected 44 = .ok (.invokevirtual 82, 3) := by decide +kernel
theorem dX0_projected_47 : decode cX0_projected 47 = .ok (.istore 5, 2) := by decide +kernel
theorem dX0_projected_49 : decode cX0_projected 49 = .ok (.iload 5, 2) := by decide +kernel
theorem dX0_projected_51 : decode cX0_projected 51 = .ok (.iload 4, 2) := by decide +kernel
theorem dX0_projected_53 : decode cX0_projected 53 = .ok (.if_icmp .le 15, 3) := by decide +kernel
theorem dX0_projected_56 : decode cX0_projected 56 = .ok (.aload_n 0, 1) := by decide +kernel
theorem dX0_projected_57 : decode cX0_projected 57 = .ok (.getfield 36, 3) := by decide +kernel
theorem dX0_projected_60 : decode cX0_projected 60 = .ok (.iload 5, 2) := by decide +kernel
theorem dX0_projected_62 : decode cX0_projected 62 = .ok (.iconst 1, 1) := by decide +kernel
theorem dX0_projected_63 : decode cX0_projected 63 = .ok (.isub, 1) := by decide +kernel
theorem dX0_projected_64 : decode cX0_projected 64 = .ok (.laload, 1) := by decide +kernel
theorem dX0_projected_65 : decode cX0_projected 65 = .ok (.goto 9, 3) := by decide +kernel
theorem dX0_projected_68 : decode cX0_projected 68 = .ok (.aload_n 0, 1) := by decide +kernel
theorem dX0_projected_69 : decode cX0_projected 69 = .ok (.getfield 16, 3) := by decide +kernel
theorem dX0_projected_72 : decode cX0_projected 72 = .ok (.iload_n 1, 1) := by decide +kernel
theorem dX0_projected_73 : decode cX0_projected 73 = .ok (.laload, 1) := by decide +kernel
theorem dX0_projected_74 : decode cX0_projected 74 = .ok (.lreturn, 1) := by decide +kernel
theorem dX1_init_0 : decode cX1_init 0 = .ok (.aload_n 0, 1) := by decide +kernel
theorem dX1_init_1 : decode cX1_init 1 = .ok (.invokespecial 1, 3) := by decide +kernel
theorem dX1_init_4 : decode cX1_init 4 = .ok (.aload_n 0, 1) := by decide +kernel
theorem dX1_init_5 : decode cX1_init 5 = .ok (.sipush 512, 3) := by decide +kernel
theorem dX1_init_8 : decode cX1_init 8 = .ok (.newarray .long, 2) := by decide +kernel
theorem dX1_init_10 : decode cX1_init 10 = .ok (.putfield 7, 3) := by decide +kernel
theorem dX1_init_13 : decode cX1_init 13 = .ok (.aload_n 0, 1) := by decide +kernel
theorem dX1_init_14 : decode cX1_init 14 = .ok (.sipush 512, 3) := by decide +kernel
theorem dX1_init_17 : decode cX1_init 17 = .ok (.newarray .boolean, 2) := by decide +kernel
theorem dX1_init_19 : decode cX1_init 19 = .ok (.putfield 13, 3) := by decide +kernel
theorem dX1_init_22 : decode cX1_init 22 = .ok (.aload_n 0, 1) := by decide +kernel
theorem dX1_init_23 : decode cX1_init 23 = .ok (.sipush 8192, 3) := by decide +kernel
theorem dX1_init_26 : decode cX1_init 26 = .ok (.newarray .int, 2) := by decide +kernel
theorem dX1_init_28 : decode cX1_init 28 = .ok (.putfield 17, 3) := by decide +kernel
theorem dX1_init_31 : decode cX1_init 31 = .ok (.aload_n 0, 1) := by decide +kernel
theorem dX1_init_32 : decode cX1_init 32 = .ok (.sipush 8192, 3) := by decide +kernel
theorem dX1_init_35 : decode cX1_init 35 = .ok (.newarray .long, 2) := by decide +kernel
theorem dX1_init_37 : decode cX1_init 37 = .ok (.putfield 21, 3) := by decide +kernel
theorem dX1_init_40 : decode cX1_init 40 = .ok (.aload_n 0, 1) := by decide +kernel
theorem dX1_init_41 : decode cX1_init 41 = .ok (.sipush 8192, 3) := by decide +kernel
theorem dX1_init_44 : decode cX1_init 44 = .ok (.newarray .long, 2) := by decide +kernel
theorem dX1_init_46 : decode cX1_init 46 = .ok (.putfield 24, 3) := by decide +kernel
theorem dX1_init_49 : decode cX1_init 49 = .ok (.aload_n 0, 1) := by decide +kernel
theorem dX1_init_50 : decode cX1_init 50 = .ok (.bipush 16, 2) := by decide +kernel
theorem dX1_init_52 : decode cX1_init 52 = .ok (.newarray .long, 2) := by decide +kernel
theorem dX1_init_54 : decode cX1_init 54 = .ok (.putfield 27, 3) := by decide +kernel
theorem dX1_init_57 : decode cX1_init 57 = .ok (.aload_n 0, 1) := by decide +kernel
theorem dX1_init_58 : decode cX1_init 58 = .ok (.bipush 16, 2) := by decide +kernel
theorem dX1_init_60 : decode cX1_init 60 = .ok (.newarray .long, 2) := by decide +kernel
theorem dX1_init_62 : decode cX1_init 62 = .ok (.putfield 30, 3) := by decide +kernel
theorem dX1_init_65 : decode cX1_init 65 = .ok (.aload_n 0, 1) := by decide +kernel
theorem dX1_init_66 : decode cX1_init 66 = .ok (.sipush 8208, 3) := by decide +kernel
theorem dX1_init_69 : decode cX1_init 69 = .ok (.newarray .long, 2) := by decide +kernel
theorem dX1_init_71 : decode cX1_init 71 = .ok (.putfield 33, 3) := by decide +kernel
theorem dX1_init_74 : decode cX1_init 74 = .ok (.aload_n 0, 1) := by decide +kernel
theorem dX1_init_75 : decode cX1_init 75 = .ok (.sipush 8208, 3) := by decide +kernel
theorem dX1_init_78 : decode cX1_init 78 = .ok (.newarray .long, 2) := by decide +kernel
theorem dX1_init_80 : decode cX1_init 80 = .ok (.putfield 36, 3) := by decide +kernel
theorem dX1_init_83 : decode cX1_init 83 = .ok (.aload_n 0, 1) := by decide +kernel
theorem dX1_init_84 : decode cX1_init 84 = .ok (.sipush 8208, 3) := by decide +kernel
theorem dX1_init_87 : decode cX1_init 87 = .ok (.newarray .boolean, 2) := by decide +kernel
theorem dX1_init_89 : decode cX1_init 89 = .ok (.putfield 39, 3) := by decide +kernel
theorem dX1_init_92 : decode cX1_init 92 = .ok (.aload_n 0, 1) := by decide +kernel
theorem dX1_init_93 : decode cX1_init 93 = .ok (.iload_n 1, 1) := by decide +kernel
theorem dX1_init_94 : decode cX1_init 94 = .ok (.ifCond .le 14, 3) := by decide +kernel
theorem dX1_init_97 : decode cX1_init 97 = .ok (.iload_n 1, 1) := by decide +kernel
theorem dX1_init_98 : decode cX1_init 98 = .ok (.sipush 512, 3) := by decide +kernel
theorem dX1_init_101 : decode cX1_init 101 = .ok (.if_icmp .gt 7, 3) := by decide +kernel
theorem dX1_init_104 : decode cX1_init 104 = .ok (.iload_n 1, 1) := by decide +kernel
theorem dX1_init_105 : decode cX1_init 105 = .ok (.goto 5, 3) := by decide +kernel
theorem dX1_init_108 : decode cX1_init 108 = .ok (.bipush 64, 2) := by decide +kernel
theorem dX1_init_110 : decode cX1_init 110 = .ok (.putfield 42, 3) := by decide +kernel
theorem dX1_init_113 : decode cX1_init 113 = .ok (.aload_n 0, 1) := by decide +kernel
theorem dX1_init_114 : decode cX1_init 114 = .ok (.iload_n 2, 1) := by decide +kernel
theorem dX1_init_115 : decode cX1_init 115 = .ok (.ifCond .le 14, 3) := by decide +kernel
theorem dX1_init_118 : decode cX1_init 118 = .ok (.iload_n 2, 1) := by decide +kernel
theorem dX1_init_119 : decode cX1_init 119 = .ok (.sipush 8192, 3) := by decide +kernel
theorem dX1_init_122 : decode cX1_init 122 = .ok (.if_icmp .gt 7, 3) := by decide +kernel
theorem dX1_init_125 : decode cX1_init 125 = .ok (.iload_n 2, 1) := by decide +kernel
theorem dX1_init_126 : decode cX1_init 126 = .ok (.goto 6, 3) := by decide +kernel
theorem dX1_init_129 : decode cX1_init 129 = .ok (.sipush 1024, 3) := by decide +kernel
theorem dX1_init_132 : decode cX1_init 132 = .ok (.putfield 46, 3) := by decide +kernel
theorem dX1_init_135 : decode cX1_init 135 = .ok (.return_, 1) := by decide +kernel
theorem dX1_thrown_0 : decode cX1_thrown 0 = .ok (.aload_n 0, 1) := by decide +kernel
theorem dX1_thrown_1 : decode cX1_thrown 1 = .ok (.getfield 49, 3) := by decide +kernel
theorem dX1_thrown_4 : decode cX1_thrown 4 = .ok (.ireturn, 1) := by decide +kernel
theorem dX1_element_0 : decode cX1_element 0 = .ok (.aload_n 0, 1) := by decide +kernel
theorem dX1_element_1 : decode cX1_element 1 = .ok (.lload_n 3, 1) := by decide +kernel
theorem dX1_element_2 : decode cX1_element 2 = .ok (.lconst 0, 1) := by decide +kernel
theorem dX1_element_3 : decode cX1_element 3 = .ok (.lcmp, 1) := by decide +kernel
theorem dX1_element_4 : decode cX1_element 4 = .ok (.ifCond .lt 11, 3) := by decide +kernel
theorem dX1_element_7 : decode cX1_element 7 = .ok (.lload_n 3, 1) := by decide +kernel
theorem dX1_element_8 : decode cX1_element 8 = .ok (.ldc2_w 52, 3) := by decide +kernel
theorem dX1_element_11 : decode cX1_element 11 = .ok (.lcmp, 1) := by decide +kernel
theorem dX1_element_12 : decode cX1_element 12 = .ok (.ifCond .le 7, 3) := by decide +kernel
theorem dX1_element_15 : decode cX1_element 15 = .ok (.iconst 1, 1) := by decide +kernel
theorem dX1_element_16 : decode cX1_element 16 = .ok (.goto 17, 3) := by decide +kernel
theorem dX1_element_19 : decode cX1_element 19 = .ok (.aload_n 0, 1) := by decide +kernel
theorem dX1_element_20 : decode cX1_element 20 = .ok (.getfield 54, 3) := by decide +kernel
theorem dX1_element_23 : decode cX1_element 23 = .ok (.bipush 16, 2) := by decide +kernel
theorem dX1_element_25 : decode cX1_element 25 = .ok (.if_icmp .ne 7, 3) := by decide +kernel
theorem dX1_element_28 : decode cX1_element 28 = .ok (.iconst 2, 1) := by decide +kernel
theorem dX1_element_29 : decode cX1_element 29 = .ok (.goto 4, 3) := by decide +kernel
theorem dX1_element_32 : decode cX1_element 32 = .ok (.iconst 0, 1) := by decide +kernel
theorem dX1_element_33 : decode cX1_element 33 = .ok (.putfield 49, 3) := by decide +kernel
theorem dX1_element_36 : decode cX1_element 36 = .ok (.aload_n 0, 1) := by decide +kernel
theorem dX1_element_37 : decode cX1_element 37 = .ok (.getfield 49, 3) := by decide +kernel
theorem dX1_element_40 : decode cX1_element 40 = .ok (.ifCond .le 4, 3) := by decide +kernel
theorem dX1_element_43 : decode cX1_element 43 = .ok (.return_, 1) := by decide +kernel
theorem dX1_element_44 : decode cX1_element 44 = .ok (.aload_n 0, 1) := by decide +kernel
theorem dX1_element_45 : decode cX1_element 45 = .ok (.getfield 27, 3) := by decide +kernel
theorem dX1_element_48 : decode cX1_element 48 = .ok (.aload_n 0, 1) := by decide +kernel
theorem dX1_element_49 : decode cX1_element 49 = .ok (.getfield 54, 3) := by decide +kernel
theorem dX1_element_52 : decode cX1_element 52 = .ok (.lload_n 1, 1) := by decide +kernel
theorem dX1_element_53 : decode cX1_element 53 = .ok (.lastore, 1) := by decide +kernel
theorem dX1_element_54 : decode cX1_element 54 = .ok (.aload_n 0, 1) := by decide +kernel
theorem dX1_element_55 : decode cX1_element 55 = .ok (.getfield 30, 3) := by decide +kernel
theorem dX1_element_58 : decode cX1_element 58 = .ok (.aload_n 0, 1) := by decide +kernel
theorem dX1_element_59 : decode cX1_element 59 = .ok (.getfield 54, 3) := by decide +kernel
theorem dX1_element_62 : decode cX1_element 62 = .ok (.lload_n 3, 1) := by decide +kernel
theorem dX1_element_63 : decode cX1_element 63 = .ok (.lastore, 1) := by decide +kernel
theorem dX1_element_64 : decode cX1_element 64 = .ok (.aload_n 0, 1) := by decide +kernel
theorem dX1_element_65 : decode cX1_element 65 = .ok (.dup, 1) := by decide +kernel
theorem dX1_element_66 : decode cX1_element 66 = .ok (.getfield 54, 3) := by decide +kernel
theorem dX1_element_69 : decode cX1_element 69 = .ok (.iconst 1, 1) := by decide +kernel
theorem dX1_element_70 : decode cX1_element 70 = .ok (.iadd, 1) := by decide +kernel
theorem dX1_element_71 : decode cX1_element 71 = .ok (.putfield 54, 3) := by decide +kernel
theorem dX1_element_74 : decode cX1_element 74 = .ok (.return_, 1) := by decide +kernel
theorem dX1_drop_0 : decode cX1_drop 0 = .ok (.aload_n 0, 1) := by decide +kernel
theorem dX1_drop_1 : decode cX1_drop 1 = .ok (.iconst 0, 1) := by decide +kernel
theorem dX1_drop_2 : decode cX1_drop 2 = .ok (.putfield 49, 3) := by decide +kernel
theorem dX1_drop_5 : decode cX1_drop 5 = .ok (.aload_n 0, 1) := by decide +kernel
theorem dX1_drop_6 : decode cX1_drop 6 = .ok (.getfield 54, 3) := by decide +kernel
theorem dX1_drop_9 : decode cX1_drop 9 = .ok (.istore_n 1, 1) := by decide +kernel
theorem dX1_drop_10 : decode cX1_drop 10 = .ok (.aload_n 0, 1) := by decide +kernel
theorem dX1_drop_11 : decode cX1_drop 11 = .ok (.iconst 0, 1) := by decide +kernel
theorem dX1_drop_12 : decode cX1_drop 12 = .ok (.putfield 54, 3) := by decide +kernel
theorem dX1_drop_15 : decode cX1_drop 15 = .ok (.iload_n 1, 1) := by decide +kernel
theorem dX1_drop_16 : decode cX1_drop 16 = .ok (.ireturn, 1) := by decide +kernel
theorem dX1_assign_0 : decode cX1_assign 0 = .ok (.aload_n 0, 1) := by decide +kernel
theorem dX1_assign_1 : decode cX1_assign 1 = .ok (.aload_n 0, 1) := by decide +kernel
theorem dX1_assign_2 : decode cX1_assign 2 = .ok (.iload_n 1, 1) := by decide +kernel
theorem dX1_assign_3 : decode cX1_assign 3 = .ok (.invokevirtual 60, 3) := by decide +kernel
theorem dX1_assign_6 : decode cX1_assign 6 = .ok (.ifCond .eq 7, 3) := by decide +kernel
theorem dX1_assign_9 : decode cX1_assign 9 = .ok (.iconst 1, 1) := by decide +kernel
theorem dX1_assign_10 : decode cX1_assign 10 = .ok (.goto 15, 3) := by decide +kernel
theorem dX1_assign_13 : decode cX1_assign 13 = .ok (.aload_n 0, 1) := by decide +kernel
theorem dX1_assign_14 : decode cX1_assign 14 = .ok (.getfield 54, 3) := by decide +kernel
theorem dX1_assign_17 : decode cX1_assign 17 = .ok (.ifCond .ne 7, 3) := by decide +kernel
theorem dX1_assign_20 : decode cX1_assign 20 = .ok (.iconst 2, 1) := by decide +kernel
theorem dX1_assign_21 : decode cX1_assign 21 = .ok (.goto 4, 3) := by decide +kernel
theorem dX1_assign_24 : decode cX1_assign 24 = .ok (.iconst 0, 1) := by decide +kernel
theorem dX1_assign_25 : decode cX1_assign 25 = .ok (.putfield 49, 3) := by decide +kernel
theorem dX1_assign_28 : decode cX1_assign 28 = .ok (.aload_n 0, 1) := by decide +kernel
theorem dX1_assign_29 : decode cX1_assign 29 = .ok (.getfield 49, 3) := by decide +kernel
theorem dX1_assign_32 : decode cX1_assign 32 = .ok (.ifCond .le 5, 3) := by decide +kernel
theorem dX1_assign_35 : decode cX1_assign 35 = .ok (.iconst 0, 1) := by decide +kernel
theorem dX1_assign_36 : decode cX1_assign 36 = .ok (.ireturn, 1) := by decide +kernel
theorem dX1_assign_37 : decode cX1_assign 37 = .ok (.iload_n 2, 1) := by decide +kernel
theorem dX1_assign_38 : decode cX1_assign 38 = .ok (.ifCond .lt 42, 3) := by decide +kernel
theorem dX1_assign_41 : decode cX1_assign 41 = .ok (.iload_n 2, 1) := by decide +kernel
theorem dX1_assign_42 : decode cX1_assign 42 = .ok (.iconst 2, 1) := by decide +kernel
theorem dX1_assign_43 : decode cX1_assign 43 = .ok (.if_icmp .gt 37, 3) := by decide +kernel
theorem dX1_assign_46 : decode cX1_assign 46 = .ok (.aload_n 0, 1) := by decide +kernel
theorem dX1_assign_47 : decode cX1_assign 47 = .ok (.invokevirtual 64, 3) := by decide +kernel
theorem dX1_assign_50 : decode cX1_assign 50 = .ok (.ifCond .eq 30, 3) := by decide +kernel
theorem dX1_assign_53 : decode cX1_assign 53 = .ok (.aload_n 0, 1) := by decide +kernel
theorem dX1_assign_54 : decode cX1_assign 54 = .ok (.getfield 68, 3) := by decide +kernel
theorem dX1_assign_57 : decode cX1_assign 57 = .ok (.aload_n 0, 1) := by decide +kernel
theorem dX1_assign_58 : decode cX1_assign 58 = .ok (.getfield 30, 3) := by decide +kernel
theorem dX1_assign_61 : decode cX1_assign 61 = .ok (.aload_n 0, 1) := by decide +kernel
theorem dX1_assign_62 : decode cX1_assign 62 = .ok (.getfield 54, 3) := by decide +kernel
theorem dX1_assign_65 : decode cX1_assign 65 = .ok (.iconst 1, 1) := by decide +kernel
theorem dX1_assign_66 : decode cX1_assign 66 = .ok (.isub, 1) := by decide +kernel
theorem dX1_assign_67 : decode cX1_assign 67 = .ok (.laload, 1) := by decide +kernel
theorem dX1_assign_68 : decode cX1_assign 68 = .ok (.ladd, 1) := by decide +kernel
theorem dX1_assign_69 : decode cX1_assign 69 = .ok (.ldc2_w 52, 3) := by decide +kernel
theorem dX1_assign_72 : decode cX1_assign 72 = .ok (.lcmp, 1) := by decide +kernel
theorem dX1_assign_73 : decode cX1_assign 73 = .ok (.ifCond .gt 7, 3) := by decide +kernel
theorem dX1_assign_76 : decode cX1_assign 76 = .ok (.iconst 1, 1) := by decide +kernel
theorem dX1_assign_77 : decode cX1_assign 77 = .ok (.goto 4, 3) := by decide +kernel
theorem dX1_assign_80 : decode cX1_assign 80 = .ok (.iconst 0, 1) := by decide +kernel
theorem dX1_assign_81 : decode cX1_assign 81 = .ok (.istore 5, 2) := by decide +kernel
theorem dX1_assign_83 : decode cX1_assign 83 = .ok (.iload 5, 2) := by decide +kernel
theorem dX1_assign_85 : decode cX1_assign 85 = .ok (.ifCond .eq 25, 3) := by decide +kernel
theorem dX1_assign_88 : decode cX1_assign 88 = .ok (.iload_n 2, 1) := by decide +kernel
theorem dX1_assign_89 : decode cX1_assign 89 = .ok (.iconst 2, 1) := by decide +kernel
theorem dX1_assign_90 : decode cX1_assign 90 = .ok (.if_icmp .ne 27, 3) := by decide +kernel
theorem dX1_assign_93 : decode cX1_assign 93 = .ok (.lload_n 3, 1) := by decide +kernel
theorem dX1_assign_94 : decode cX1_assign 94 = .ok (.lconst 0, 1) := by decide +kernel
theorem dX1_assign_95 : decode cX1_assign 95 = .ok (.lcmp, 1) := by decide +kernel
theorem dX1_assign_96 : decode cX1_assign 96 = .ok (.ifCond .lt 14, 3) := by decide +kernel
theorem dX1_assign_99 : decode cX1_assign 99 = .ok (.lload_n 3, 1) := by decide +kernel
theorem dX1_assign_100 : decode cX1_assign 100 = .ok (.aload_n 0, 1) := by decide +kernel
theorem dX1_assign_101 : decode cX1_assign 101 = .ok (.getfield 30, 3) := by decide +kernel
theorem dX1_assign_104 : decode cX1_assign 104 = .ok (.iconst 0, 1) := by decide +kernel
theorem dX1_assign_105 : decode cX1_assign 105 = .ok (.laload, 1) := by decide +kernel
theorem dX1_assign_106 : decode cX1_assign 106 = .ok (.lcmp, 1) := by decide +kernel
theorem dX1_assign_107 : decode cX1_assign 107 = .ok (.ifCond .le 10, 3) := by decide +kernel
theorem dX1_assign_110 : decode cX1_assign 110 = .ok (.aload_n 0, 1) := by decide +kernel
theorem dX1_assign_111 : decode cX1_assign 111 = .ok (.iconst 3, 1) := by decide +kernel
theorem dX1_assign_112 : decode cX1_assign 112 = .ok (.putfield 49, 3) := by decide +kernel
theorem dX1_assign_115 : decode cX1_assign 115 = .ok (.iconst 0, 1) := by decide +kernel
theorem dX1_assign_116 : decode cX1_assign 116 = .ok (.ireturn, 1) := by decide +kernel
theorem dX1_assign_117 : decode cX1_assign 117 = .ok (.aload_n 0, 1) := by decide +kernel
theorem dX1_assign_118 : decode cX1_assign 118 = .ok (.getfield 68, 3) := by decide +kernel
theorem dX1_assign_121 : decode cX1_assign 121 = .ok (.aload_n 0, 1) := by decide +kernel
theorem dX1_assign_122 : decode cX1_assign 122 = .ok (.getfield 30, 3) := by decide +kernel
theorem dX1_assign_125 : decode cX1_assign 125 = .ok (.iconst 0, 1) := by decide +kernel
theorem dX1_assign_126 : decode cX1_assign 126 = .ok (.laload, 1) := by decide +kernel
theorem dX1_assign_127 : decode cX1_assign 127 = .ok (.ladd, 1) := by decide +kernel
theorem dX1_assign_128 : decode cX1_assign 128 = .ok (.lstore 6, 2) := by decide +kernel
theorem dX1_assign_130 : decode cX1_assign 130 = .ok (.iconst 0, 1) := by decide +kernel
theorem dX1_assign_131 : decode cX1_assign 131 = .ok (.istore 8, 2) := by decide +kernel
theorem dX1_assign_133 : decode cX1_assign 133 = .ok (.iconst 0, 1) := by decide +kernel
theorem dX1_assign_134 : decode cX1_assign 134 = .ok (.istore 9, 2) := by decide +kernel
theorem dX1_assign_136 : decode cX1_assign 136 = .ok (.iconst 0, 1) := by decide +kernel
theorem dX1_assign_137 : decode cX1_assign 137 = .ok (.istore 10, 2) := by decide +kernel
theorem dX1_assign_139 : decode cX1_assign 139 = .ok (.iload 10, 2) := by decide +kernel
theorem dX1_assign_141 : decode cX1_assign 141 = .ok (.aload_n 0, 1) := by decide +kernel
theorem dX1_assign_142 : decode cX1_assign 142 = .ok (.getfield 57, 3) := by decide +kernel
theorem dX1_assign_145 : decode cX1_assign 145 = .ok (.if_icmp .ge 112, 3) := by decide +kernel
theorem dX1_assign_148 : decode cX1_assign 148 = .ok (.aload_n 0, 1) := by decide +kernel
theorem dX1_assign_149 : decode cX1_assign 149 = .ok (.getfield 17, 3) := by decide +kernel
theorem dX1_assign_152 : decode cX1_assign 152 = .ok (.iload 10, 2) := by decide +kernel
theorem dX1_assign_154 : decode cX1_assign 154 = .ok (.iaload, 1) := by decide +kernel
theorem dX1_assign_155 : decode cX1_assign 155 = .ok (.iload_n 1, 1) := by decide +kernel
theorem dX1_assign_156 : decode cX1_assign 156 = .ok (.if_icmp .ne 95, 3) := by decide +kernel
theorem dX1_assign_159 : decode cX1_assign 159 = .ok (.iinc 9 1, 3) := by decide +kernel
theorem dX1_assign_162 : decode cX1_assign 162 = .ok (.aload_n 0, 1) := by decide +kernel
theorem dX1_assign_163 : decode cX1_assign 163 = .ok (.getfield 21, 3) := by decide +kernel
theorem dX1_assign_166 : decode cX1_assign 166 = .ok (.iload 10, 2) := by decide +kernel
theorem dX1_assign_168 : decode cX1_assign 168 = .ok (.laload, 1) := by decide +kernel
theorem dX1_assign_169 : decode cX1_assign 169 = .ok (.lload 6, 2) := by decide +kernel
theorem dX1_assign_171 : decode cX1_assign 171 = .ok (.lcmp, 1) := by decide +kernel
theorem dX1_assign_172 : decode cX1_assign 172 = .ok (.ifCond .ge 79, 3) := by decide +kernel
theorem dX1_assign_175 : decode cX1_assign 175 = .ok (.aload_n 0, 1) := by decide +kernel
theorem dX1_assign_176 : decode cX1_assign 176 = .ok (.getfield 33, 3) := by decide +kernel
theorem dX1_assign_179 : decode cX1_assign 179 = .ok (.iload 8, 2) := by decide +kernel
theorem dX1_assign_181 : decode cX1_assign 181 = .ok (.aload_n 0, 1) := by decide +kernel
theorem dX1_assign_182 : decode cX1_assign 182 = .ok (.getfield 21, 3) := by decide +kernel
theorem dX1_assign_185 : decode cX1_assign 185 = .ok (.iload 10, 2) := by decide +kernel
theorem dX1_assign_187 : decode cX1_assign 187 = .ok (.laload, 1) := by decide +kernel
theorem dX1_assign_188 : decode cX1_assign 188 = .ok (.lastore, 1) := by decide +kernel
theorem dX1_assign_189 : decode cX1_assign 189 = .ok (.aload_n 0, 1) := by decide +kernel
theorem dX1_assign_190 : decode cX1_assign 190 = .ok (.getfield 36, 3) := by decide +kernel
theorem dX1_assign_193 : decode cX1_assign 193 = .ok (.iload 8, 2) := by decide +kernel
theorem dX1_assign_195 : decode cX1_assign 195 = .ok (.aload_n 0, 1) := by decide +kernel
theorem dX1_assign_196 : decode cX1_assign 196 = .ok (.getfield 24, 3) := by decide +kernel
theorem dX1_assign_199 : decode cX1_assign 199 = .ok (.iload 10, 2) := by decide +kernel
theorem dX1_assign_201 : decode cX1_assign 201 = .ok (.laload, 1) := by decide +kernel
theorem dX1_assign_202 : decode cX1_assign 202 = .ok (.lastore, 1) := by decide +kernel
theorem dX1_assign_203 : decode cX1_assign 203 = .ok (.aload_n 0, 1) := by decide +kernel
theorem dX1_assign_204 : decode cX1_assign 204 = .ok (.getfield 39, 3) := by decide +kernel
theorem dX1_assign_207 : decode cX1_assign 207 = .ok (.iload 8, 2) := by decide +kernel
theorem dX1_assign_209 : decode cX1_assign 209 = .ok (.iload_n 2, 1) := by decide +kernel
theorem dX1_assign_210 : decode cX1_assign 210 = .ok (.iconst 1, 1) := by decide +kernel
theorem dX1_assign_211 : decode cX1_assign 211 = .ok (.if_icmp .eq 31, 3) := by decide +kernel
theorem dX1_assign_214 : decode cX1_assign 214 = .ok (.aload_n 0, 1) := by decide +kernel
theorem dX1_assign_215 : decode cX1_assign 215 = .ok (.getfield 21, 3) := by decide +kernel
theorem dX1_assign_218 : decode cX1_assign 218 = .ok (.iload 10, 2) := by decide +kernel
theorem dX1_assign_220 : decode cX1_assign 220 = .ok (.laload, 1) := by decide +kernel
theorem dX1_assign_221 : decode cX1_assign 221 = .ok (.lload 6, 2) := by decide +kernel
theorem dX1_assign_223 : decode cX1_assign 223 = .ok (.iload_n 2, 1) := by decide +kernel
theorem dX1_assign_224 : decode cX1_assign 224 = .ok (.ifCond .ne 12, 3) := by decide +kernel
theorem dX1_assign_227 : decode cX1_assign 227 = .ok (.aload_n 0, 1) := by decide +kernel
theorem dX1_assign_228 : decode cX1_assign 228 = .ok (.getfield 30, 3) := by decide +kernel
theorem dX1_assign_231 : decode cX1_assign 231 = .ok (.iconst 0, 1) := by decide +kernel
theorem dX1_assign_232 : decode cX1_assign 232 = .ok (.laload, 1) := by decide +kernel
theorem dX1_assign_233 : decode cX1_assign 233 = .ok (.goto 4, 3) := by decide +kernel
theorem dX1_assign_236 : decode cX1_assign 236 = .ok (.lload_n 3, 1) := by decide +kernel
theorem dX1_assign_237 : decode cX1_assign 237 = .ok (.lsub, 1) := by decide +kernel
theorem dX1_assign_238 : decode cX1_assign 238 = .ok (.lcmp, 1) := by decide +kernel
theorem dX1_assign_239 : decode cX1_assign 239 = .ok (.ifCond .ge 7, 3) := by decide +kernel
theorem dX1_assign_242 : decode cX1_assign 242 = .ok (.iconst 1, 1) := by decide +kernel
theorem dX1_assign_243 : decode cX1_assign 243 = .ok (.goto 4, 3) := by decide +kernel
theorem dX1_assign_246 : decode cX1_assign 246 = .ok (.iconst 0, 1) := by decide +kernel
theorem dX1_assign_247 : decode cX1_assign 247 = .ok (.bastore, 1) := by decide +kernel
theorem dX1_assign_248 : decode cX1_assign 248 = .ok (.iinc 8 1, 3) := by decide +kernel
theorem dX1_assign_251 : decode cX1_assign 251 = .ok (.iinc 10 1, 3) := by decide +kernel
theorem dX1_assign_254 : decode cX1_assign 254 = .ok (.goto (-115), 3) := by decide +kernel
theorem dX1_assign_257 : decode cX1_assign 257 = .ok (.iload 8, 2) := by decide +kernel
theorem dX1_assign_259 : decode cX1_assign 259 = .ok (.istore 10, 2) := by decide +kernel
theorem dX1_assign_261 : decode cX1_assign 261 = .ok (.iconst 0, 1) := by decide +kernel
theorem dX1_assign_262 : decode cX1_assign 262 = .ok (.istore 11, 2) := by decide +kernel
theorem dX1_assign_264 : decode cX1_assign 264 = .ok (.iload 11, 2) := by decide +kernel
theorem dX1_assign_266 : decode cX1_assign 266 = .ok (.aload_n 0, 1) := by decide +kernel
theorem dX1_assign_267 : decode cX1_assign 267 = .ok (.getfield 54, 3) := by decide +kernel
theorem dX1_assign_270 : decode cX1_assign 270 = .ok (.if_icmp .ge 53, 3) := by decide +kernel
theorem dX1_assign_273 : decode cX1_assign 273 = .ok (.aload_n 0, 1) := by decide +kernel
theorem dX1_assign_274 : decode cX1_assign 274 = .ok (.getfield 33, 3) := by decide +kernel
theorem dX1_assign_277 : decode cX1_assign 277 = .ok (.iload 8, 2) := by decide +kernel
theorem dX1_assign_279 : decode cX1_assign 279 = .ok (.aload_n 0, 1) := by decide +kernel
theorem dX1_assign_280 : decode cX1_assign 280 = .ok (.getfield 68, 3) := by decide +kernel
theorem dX1_assign_283 : decode cX1_assign 283 = .ok (.aload_n 0, 1) := by decide +kernel
theorem dX1_assign_284 : decode cX1_assign 284 = .ok (.getfield 30, 3) := by decide +kernel
theorem dX1_assign_287 : decode cX1_assign 287 = .ok (.iload 11, 2) := by decide +kernel
theorem dX1_assign_289 : decode cX1_assign 289 = .ok (.laload, 1) := by decide +kernel
theorem dX1_assign_290 : decode cX1_assign 290 = .ok (.ladd, 1) := by decide +kernel
theorem dX1_assign_291 : decode cX1_assign 291 = .ok (.lastore, 1) := by decide +kernel
theorem dX1_assign_292 : decode cX1_assign 292 = .ok (.aload_n 0, 1) := by decide +kernel
theorem dX1_assign_293 : decode cX1_assign 293 = .ok (.getfield 36, 3) := by decide +kernel
theorem dX1_assign_296 : decode cX1_assign 296 = .ok (.iload 8, 2) := by decide +kernel
theorem dX1_assign_298 : decode cX1_assign 298 = .ok (.aload_n 0, 1) := by decide +kernel
theorem dX1_assign_299 : decode cX1_assign 299 = .ok (.getfield 27, 3) := by decide +kernel
theorem dX1_assign_302 : decode cX1_assign 302 = .ok (.iload 11, 2) := by decide +kernel
theorem dX1_assign_304 : decode cX1_assign 304 = .ok (.laload, 1) := by decide +kernel
theorem dX1_assign_305 : decode cX1_assign 305 = .ok (.lastore, 1) := by decide +kernel
theorem dX1_assign_306 : decode cX1_assign 306 = .ok (.aload_n 0, 1) := by decide +kernel
theorem dX1_assign_307 : decode cX1_assign 307 = .ok (.getfield 39, 3) := by decide +kernel
theorem dX1_assign_310 : decode cX1_assign 310 = .ok (.iload 8, 2) := by decide +kernel
theorem dX1_assign_312 : decode cX1_assign 312 = .ok (.iconst 1, 1) := by decide +kernel
theorem dX1_assign_313 : decode cX1_assign 313 = .ok (.bastore, 1) := by decide +kernel
theorem dX1_assign_314 : decode cX1_assign 314 = .ok (.iinc 8 1, 3) := by decide +kernel
theorem dX1_assign_317 : decode cX1_assign 317 = .ok (.iinc 11 1, 3) := by decide +kernel
theorem dX1_assign_320 : decode cX1_assign 320 = .ok (.goto (-56), 3) := by decide +kernel
theorem dX1_assign_323 : decode cX1_assign 323 = .ok (.iload 10, 2) := by decide +kernel
theorem dX1_assign_325 : decode cX1_assign 325 = .ok (.iconst 1, 1) := by decide +kernel
theorem dX1_assign_326 : decode cX1_assign 326 = .ok (.isub, 1) := by decide +kernel
theorem dX1_assign_327 : decode cX1_assign 327 = .ok (.istore 11, 2) := by decide +kernel
theorem dX1_assign_329 : decode cX1_assign 329 = .ok (.iload 11, 2) := by decide +kernel
theorem dX1_assign_331 : decode cX1_assign 331 = .ok (.ifCond .lt 63, 3) := by decide +kernel
theorem dX1_assign_334 : decode cX1_assign 334 = .ok (.aload_n 0, 1) := by decide +kernel
theorem dX1_assign_335 : decode cX1_assign 335 = .ok (.getfield 39, 3) := by decide +kernel
theorem dX1_assign_338 : decode cX1_assign 338 = .ok (.iload 11, 2) := by decide +kernel
theorem dX1_assign_340 : decode cX1_assign 340 = .ok (.aload_n 0, 1) := by decide +kernel
theorem dX1_assign_341 : decode cX1_assign 341 = .ok (.getfield 39, 3) := by decide +kernel
theorem dX1_assign_344 : decode cX1_assign 344 = .ok (.iload 11, 2) := by decide +kernel
theorem dX1_assign_346 : decode cX1_assign 346 = .ok (.baload, 1) := by decide +kernel
theorem dX1_assign_347 : decode cX1_assign 347 = .ok (.ifCond .ne 35, 3) := by decide +kernel
theorem dX1_assign_350 : decode cX1_assign 350 = .ok (.aload_n 0, 1) := by decide +kernel
theorem dX1_assign_351 : decode cX1_assign 351 = .ok (.getfield 39, 3) := by decide +kernel
theorem dX1_assign_354 : decode cX1_assign 354 = .ok (.iload 11, 2) := by decide +kernel
theorem dX1_assign_356 : decode cX1_assign 356 = .ok (.iconst 1, 1) := by decide +kernel
theorem dX1_assign_357 : decode cX1_assign 357 = .ok (.iadd, 1) := by decide +kernel
theorem dX1_assign_358 : decode cX1_assign 358 = .ok (.baload, 1) := by decide +kernel
theorem dX1_assign_359 : decode cX1_assign 359 = .ok (.ifCond .eq 27, 3) := by decide +kernel
theorem dX1_assign_362 : decode cX1_assign 362 = .ok (.aload_n 0, 1) := by decide +kernel
theorem dX1_assign_363 : decode cX1_assign 363 = .ok (.getfield 36, 3) := by decide +kernel
theorem dX1_assign_366 : decode cX1_assign 366 = .ok (.iload 11, 2) := by decide +kernel
theorem dX1_assign_368 : decode cX1_assign 368 = .ok (.iconst 1, 1) := by decide +kernel
theorem dX1_assign_369 : decode cX1_assign 369 = .ok (.iadd, 1) := by decide +kernel
theorem dX1_assign_370 : decode cX1_assign 370 = .ok (.laload, 1) := by decide +kernel
theorem dX1_assign_371 : decode cX1_assign 371 = .ok (.aload_n 0, 1) := by decide +kernel
theorem dX1_assign_372 : decode cX1_assign 372 = .ok (.getfield 36, 3) := by decide +kernel
theorem dX1_assign_375 : decode cX1_assign 375 = .ok (.iload 11, 2) := by decide +kernel
theorem dX1_assign_377 : decode cX1_assign 377 = .ok (.laload, 1) := by decide +kernel
theorem dX1_assign_378 : decode cX1_assign 378 = .ok (.lcmp, 1) := by decide +kernel
theorem dX1_assign_379 : decode cX1_assign 379 = .ok (.ifCond .ne 7, 3) := by decide +kernel
theorem dX1_assign_382 : decode cX1_assign 382 = .ok (.iconst 1, 1) := by decide +kernel
theorem dX1_assign_383 : decode cX1_assign 383 = .ok (.goto 4, 3) := by decide +kernel
theorem dX1_assign_386 : decode cX1_assign 386 = .ok (.iconst 0, 1) := by decide +kernel
theorem dX1_assign_387 : decode cX1_assign 387 = .ok (.bastore, 1) := by decide +kernel
theorem dX1_assign_388 : decode cX1_assign 388 = .ok (.iinc 11 (-1), 3) := by decide +kernel
theorem dX1_assign_391 : decode cX1_assign 391 = .ok (.goto (-62), 3) := by decide +kernel
theorem dX1_assign_394 : decode cX1_assign 394 = .ok (.iconst 0, 1) := by decide +kernel
theorem dX1_assign_395 : decode cX1_assign 395 = .ok (.istore 11, 2) := by decide +kernel
theorem dX1_assign_397 : decode cX1_assign 397 = .ok (.iconst 0, 1) := by decide +kernel
theorem dX1_assign_398 : decode cX1_assign 398 = .ok (.istore 12, 2) := by decide +kernel
theorem dX1_assign_400 : decode cX1_assign 400 = .ok (.iload 12, 2) := by decide +kernel
theorem dX1_assign_402 : decode cX1_assign 402 = .ok (.iload 10, 2) := by decide +kernel
theorem dX1_assign_404 : decode cX1_assign 404 = .ok (.if_icmp .ge 30, 3) := by decide +kernel
theorem dX1_assign_407 : decode cX1_assign 407 = .ok (.aload_n 0, 1) := by decide +kernel
theorem dX1_assign_408 : decode cX1_assign 408 = .ok (.getfield 39, 3) := by decide +kernel
theorem dX1_assign_411 : decode cX1_assign 411 = .ok (.iload 12, 2) := by decide +kernel
theorem dX1_assign_413 : decode cX1_assign 413 = .ok (.baload, 1) := by decide +kernel
theorem dX1_assign_414 : decode cX1_assign 414 = .ok (.ifCond .eq 10, 3) := by decide +kernel
theorem dX1_assign_417 : decode cX1_assign 417 = .ok (.iload 11, 2) := by decide +kernel
theorem dX1_assign_419 : decode cX1_assign 419 = .ok (.iconst 1, 1) := by decide +kernel
theorem dX1_assign_420 : decode cX1_assign 420 = .ok (.iadd, 1) := by decide +kernel
theorem dX1_assign_421 : decode cX1_assign 421 = .ok (.goto 5, 3) := by decide +kernel
theorem dX1_assign_424 : decode cX1_assign 424 = .ok (.iload 11, 2) := by decide +kernel
theorem dX1_assign_426 : decode cX1_assign 426 = .ok (.istore 11, 2) := by decide +kernel
theorem dX1_assign_428 : decode cX1_assign 428 = .ok (.iinc 12 1, 3) := by decide +kernel
theorem dX1_assign_431 : decode cX1_assign 431 = .ok (.goto (-31), 3) := by decide +kernel
theorem dX1_assign_434 : decode cX1_assign 434 = .ok (.aload_n 0, 1) := by decide +kernel
theorem dX1_assign_435 : decode cX1_assign 435 = .ok (.getfield 57, 3) := by decide +kernel
theorem dX1_assign_438 : decode cX1_assign 438 = .ok (.iload 9, 2) := by decide +kernel
theorem dX1_assign_440 : decode cX1_assign 440 = .ok (.isub, 1) := by decide +kernel
theorem dX1_assign_441 : decode cX1_assign 441 = .ok (.iload 11, 2) := by decide +kernel
theorem dX1_assign_443 : decode cX1_assign 443 = .ok (.iadd, 1) := by decide +kernel
theorem dX1_assign_444 : decode cX1_assign 444 = .ok (.aload_n 0, 1) := by decide +kernel
theorem dX1_assign_445 : decode cX1_assign 445 = .ok (.getfield 54, 3) := by decide +kernel
theorem dX1_assign_448 : decode cX1_assign 448 = .ok (.iadd, 1) := by decide +kernel
theorem dX1_assign_449 : decode cX1_assign 449 = .ok (.aload_n 0, 1) := by decide +kernel
theorem dX1_assign_450 : decode cX1_assign 450 = .ok (.getfield 46, 3) := by decide +kernel
theorem dX1_assign_453 : decode cX1_assign 453 = .ok (.if_icmp .le 10, 3) := by decide +kernel
theorem dX1_assign_456 : decode cX1_assign 456 = .ok (.aload_n 0, 1) := by decide +kernel
theorem dX1_assign_457 : decode cX1_assign 457 = .ok (.iconst 2, 1) := by decide +kernel
theorem dX1_assign_458 : decode cX1_assign 458 = .ok (.putfield 49, 3) := by decide +kernel
theorem dX1_assign_461 : decode cX1_assign 461 = .ok (.iconst 0, 1) := by decide +kernel
theorem dX1_assign_462 : decode cX1_assign 462 = .ok (.ireturn, 1) := by decide +kernel
theorem dX1_assign_463 : decode cX1_assign 463 = .ok (.aload_n 0, 1) := by decide +kernel
theorem dX1_assign_464 : decode cX1_assign 464 = .ok (.iload_n 1, 1) := by decide +kernel
theorem dX1_assign_465 : decode cX1_assign 465 = .ok (.iload 8, 2) := by decide +kernel
theorem dX1_assign_467 : decode cX1_assign 467 = .ok (.invokevirtual 72, 3) := by decide +kernel
theorem dX1_assign_470 : decode cX1_assign 470 = .ok (.aload_n 0, 1) := by decide +kernel
theorem dX1_assign_471 : decode cX1_assign 471 = .ok (.iconst 0, 1) := by decide +kernel
theorem dX1_assign_472 : decode cX1_assign 472 = .ok (.putfield 54, 3) := by decide +kernel
theorem dX1_assign_475 : decode cX1_assign 475 = .ok (.iload 9, 2) := by decide +kernel
theorem dX1_assign_477 : decode cX1_assign 477 = .ok (.iload 11, 2) := by decide +kernel
theorem dX1_assign_479 : decode cX1_assign 479 = .ok (.isub, 1) := by decide +kernel
theorem dX1_assign_480 : decode cX1_assign 480 = .ok (.ireturn, 1) := by decide +kernel
theorem dX1_none_0 : decode cX1_none 0 = .ok (.iload_n 1, 1) := by decide +kernel
theorem dX1_none_1 : decode cX1_none 1 = .ok (.ifCond .lt 11, 3) := by decide +kernel
theorem dX1_none_4 : decode cX1_none 4 = .ok (.iload_n 1, 1) := by decide +kernel
theorem dX1_none_5 : decode cX1_none 5 = .ok (.aload_n 0, 1) := by decide +kernel
theorem dX1_none_6 : decode cX1_none 6 = .ok (.getfield 42, 3) := by decide +kernel
theorem dX1_none_9 : decode cX1_none 9 = .ok (.if_icmp .lt 7, 3) := by decide +kernel
theorem dX1_none_12 : decode cX1_none 12 = .ok (.iconst 1, 1) := by decide +kernel
theorem dX1_none_13 : decode cX1_none 13 = .ok (.goto 4, 3) := by decide +kernel
theorem dX1_none_16 : decode cX1_none 16 = .ok (.iconst 0, 1) := by decide +kernel
theorem dX1_none_17 : decode cX1_none 17 = .ok (.ireturn, 1) := by decide +kernel
theorem dX1_rises_0 : decode cX1_rises 0 = .ok (.iconst 1, 1) := by decide +kernel
theorem dX1_rises_1 : decode cX1_rises 1 = .ok (.istore_n 1, 1) := by decide +kernel
theorem dX1_rises_2 : decode cX1_rises 2 = .ok (.iconst 1, 1) := by decide +kernel
theorem dX1_rises_3 : decode cX1_rises 3 = .ok (.istore_n 2, 1) := by decide +kernel
theorem dX1_rises_4 : decode cX1_rises 4 = .ok (.iload_n 2, 1) := by decide +kernel
theorem dX1_rises_5 : decode cX1_rises 5 = .ok (.aload_n 0, 1) := by decide +kernel
theorem dX1_rises_6 : decode cX1_rises 6 = .ok (.getfield 54, 3) := by decide +kernel
theorem dX1_rises_9 : decode cX1_rises 9 = .ok (.if_icmp .ge 37, 3) := by decide +kernel
theorem dX1_rises_12 : decode cX1_rises 12 = .ok (.iload_n 1, 1) := by decide +kernel
theorem dX1_rises_13 : decode cX1_rises 13 = .ok (.ifCond .eq 25, 3) := by decide +kernel
theorem dX1_rises_16 : decode cX1_rises 16 = .ok (.aload_n 0, 1) := by decide +kernel
theorem dX1_rises_17 : decode cX1_rises 17 = .ok (.getfield 30, 3) := by decide +kernel
theorem dX1_rises_20 : decode cX1_rises 20 = .ok (.iload_n 2, 1) := by decide +kernel
theorem dX1_rises_21 : decode cX1_rises 21 = .ok (.laload, 1) := by decide +kernel
theorem dX1_rises_22 : decode cX1_rises 22 = .ok (.aload_n 0, 1) := by decide +kernel
theorem dX1_rises_23 : decode cX1_rises 23 = .ok (.getfield 30, 3) := by decide +kernel
theorem dX1_rises_26 : decode cX1_rises 26 = .ok (.iload_n 2, 1) := by decide +kernel
theorem dX1_rises_27 : decode cX1_rises 27 = .ok (.iconst 1, 1) := by decide +kernel
theorem dX1_rises_28 : decode cX1_rises 28 = .ok (.isub, 1) := by decide +kernel
theorem dX1_rises_29 : decode cX1_rises 29 = .ok (.laload, 1) := by decide +kernel
theorem dX1_rises_30 : decode cX1_rises 30 = .ok (.lcmp, 1) := by decide +kernel
theorem dX1_rises_31 : decode cX1_rises 31 = .ok (.ifCond .le 7, 3) := by decide +kernel
theorem dX1_rises_34 : decode cX1_rises 34 = .ok (.iconst 1, 1) := by decide +kernel
theorem dX1_rises_35 : decode cX1_rises 35 = .ok (.goto 4, 3) := by decide +kernel
theorem dX1_rises_38 : decode cX1_rises 38 = .ok (.iconst 0, 1) := by decide +kernel
theorem dX1_rises_39 : decode cX1_rises 39 = .ok (.istore_n 1, 1) := by decide +kernel
theorem dX1_rises_40 : decode cX1_rises 40 = .ok (.iinc 2 1, 3) := by decide +kernel
theorem dX1_rises_43 : decode cX1_rises 43 = .ok (.goto (-39), 3) := by decide +kernel
theorem dX1_rises_46 : decode cX1_rises 46 = .ok (.iload_n 1, 1) := by decide +kernel
theorem dX1_rises_47 : decode cX1_rises 47 = .ok (.ireturn, 1) := by decide +kernel
theorem dX1_replace_0 : decode cX1_replace 0 = .ok (.iconst 0, 1) := by decide +kernel
theorem dX1_replace_1 : decode cX1_replace 1 = .ok (.istore_n 3, 1) := by decide +kernel
theorem dX1_replace_2 : decode cX1_replace 2 = .ok (.iconst 0, 1) := by decide +kernel
theorem dX1_replace_3 : decode cX1_replace 3 = .ok (.istore 4, 2) := by decide +kernel
theorem dX1_replace_5 : decode cX1_replace 5 = .ok (.iload 4, 2) := by decide +kernel
theorem dX1_replace_7 : decode cX1_replace 7 = .ok (.aload_n 0, 1) := by decide +kernel
theorem dX1_replace_8 : decode cX1_replace 8 = .ok (.getfield 57, 3) := by decide +kernel
theorem dX1_replace_11 : decode cX1_replace 11 = .ok (.if_icmp .ge 62, 3) := by decide +kernel
theorem dX1_replace_14 : decode cX1_replace 14 = .ok (.aload_n 0, 1) := by decide +kernel
theorem dX1_replace_15 : decode cX1_replace 15 = .ok (.getfield 17, 3) := by decide +kernel
theorem dX1_replace_18 : decode cX1_replace 18 = .ok (.iload 4, 2) := by decide +kernel
theorem dX1_replace_20 : decode cX1_replace 20 = .ok (.iaload, 1) := by decide +kernel
theorem dX1_replace_21 : decode cX1_replace 21 = .ok (.iload_n 1, 1) := by decide +kernel
theorem dX1_replace_22 : decode cX1_replace 22 = .ok (.if_icmp .eq 45, 3) := by decide +kernel
theorem dX1_replace_25 : decode cX1_replace 25 = .ok (.aload_n 0, 1) := by decide +kernel
theorem dX1_replace_26 : decode cX1_replace 26 = .ok (.getfield 17, 3) := by decide +kernel
theorem dX1_replace_29 : decode cX1_replace 29 = .ok (.iload_n 3, 1) := by decide +kernel
theorem dX1_replace_30 : decode cX1_replace 30 = .ok (.aload_n 0, 1) := by decide +kernel
theorem dX1_replace_31 : decode cX1_replace 31 = .ok (.getfield 17, 3) := by decide +kernel
theorem dX1_replace_34 : decode cX1_replace 34 = .ok (.iload 4, 2) := by decide +kernel
theorem dX1_replace_36 : decode cX1_replace 36 = .ok (.iaload, 1) := by decide +kernel
theorem dX1_replace_37 : decode cX1_replace 37 = .ok (.iastore, 1) := by decide +kernel
theorem dX1_replace_38 : decode cX1_replace 38 = .ok (.aload_n 0, 1) := by decide +kernel
theorem dX1_replace_39 : decode cX1_replace 39 = .ok (.getfield 21, 3) := by decide +kernel
theorem dX1_replace_42 : decode cX1_replace 42 = .ok (.iload_n 3, 1) := by decide +kernel
theorem dX1_replace_43 : decode cX1_replace 43 = .ok (.aload_n 0, 1) := by decide +kernel
theorem dX1_replace_44 : decode cX1_replace 44 = .ok (.getfield 21, 3) := by decide +kernel
theorem dX1_replace_47 : decode cX1_replace 47 = .ok (.iload 4, 2) := by decide +kernel
theorem dX1_replace_49 : decode cX1_replace 49 = .ok (.laload, 1) := by decide +kernel
theorem dX1_replace_50 : decode cX1_replace 50 = .ok (.lastore, 1) := by decide +kernel
theorem dX1_replace_51 : decode cX1_replace 51 = .ok (.aload_n 0, 1) := by decide +kernel
theorem dX1_replace_52 : decode cX1_replace 52 = .ok (.getfield 24, 3) := by decide +kernel
theorem dX1_replace_55 : decode cX1_replace 55 = .ok (.iload_n 3, 1) := by decide +kernel
theorem dX1_replace_56 : decode cX1_replace 56 = .ok (.aload_n 0, 1) := by decide +kernel
theorem dX1_replace_57 : decode cX1_replace 57 = .ok (.getfield 24, 3) := by decide +kernel
theorem dX1_replace_60 : decode cX1_replace 60 = .ok (.iload 4, 2) := by decide +kernel
theorem dX1_replace_62 : decode cX1_replace 62 = .ok (.laload, 1) := by decide +kernel
theorem dX1_replace_63 : decode cX1_replace 63 = .ok (.lastore, 1) := by decide +kernel
theorem dX1_replace_64 : decode cX1_replace 64 = .ok (.iinc 3 1, 3) := by decide +kernel
theorem dX1_replace_67 : decode cX1_replace 67 = .ok (.iinc 4 1, 3) := by decide +kernel
theorem dX1_replace_70 : decode cX1_replace 70 = .ok (.goto (-65), 3) := by decide +kernel
theorem dX1_replace_73 : decode cX1_replace 73 = .ok (.aload_n 0, 1) := by decide +kernel
theorem dX1_replace_74 : decode cX1_replace 74 = .ok (.iload_n 3, 1) := by decide +kernel
theorem dX1_replace_75 : decode cX1_replace 75 = .ok (.putfield 57, 3) := by decide +kernel
theorem dX1_replace_78 : decode cX1_replace 78 = .ok (.iconst 0, 1) := by decide +kernel
theorem dX1_replace_79 : decode cX1_replace 79 = .ok (.istore 4, 2) := by decide +kernel
theorem dX1_replace_81 : decode cX1_replace 81 = .ok (.iload 4, 2) := by decide +kernel
theorem dX1_replace_83 : decode cX1_replace 83 = .ok (.iload_n 2, 1) := by decide +kernel
theorem dX1_replace_84 : decode cX1_replace 84 = .ok (.if_icmp .ge 71, 3) := by decide +kernel
theorem dX1_replace_87 : decode cX1_replace 87 = .ok (.aload_n 0, 1) := by decide +kernel
theorem dX1_replace_88 : decode cX1_replace 88 = .ok (.getfield 39, 3) := by decide +kernel
theorem dX1_replace_91 : decode cX1_replace 91 = .ok (.iload 4, 2) := by decide +kernel
theorem dX1_replace_93 : decode cX1_replace 93 = .ok (.baload, 1) := by decide +kernel
theorem dX1_replace_94 : decode cX1_replace 94 = .ok (.ifCond .eq 55, 3) := by decide +kernel
theorem dX1_replace_97 : decode cX1_replace 97 = .ok (.aload_n 0, 1) := by decide +kernel
theorem dX1_replace_98 : decode cX1_replace 98 = .ok (.getfield 17, 3) := by decide +kernel
theorem dX1_replace_101 : decode cX1_replace 101 = .ok (.aload_n 0, 1) := by decide +kernel
theorem dX1_replace_102 : decode cX1_replace 102 = .ok (.getfield 57, 3) := by decide +kernel
theorem dX1_replace_105 : decode cX1_replace 105 = .ok (.iload_n 1, 1) := by decide +kernel
theorem dX1_replace_106 : decode cX1_replace 106 = .ok (.iastore, 1) := by decide +kernel
theorem dX1_replace_107 : decode cX1_replace 107 = .ok (.aload_n 0, 1) := by decide +kernel
theorem dX1_replace_108 : decode cX1_replace 108 = .ok (.getfield 21, 3) := by decide +kernel
theorem dX1_replace_111 : decode cX1_replace 111 = .ok (.aload_n 0, 1) := by decide +kernel
theorem dX1_replace_112 : decode cX1_replace 112 = .ok (.getfield 57, 3) := by decide +kernel
theorem dX1_replace_115 : decode cX1_replace 115 = .ok (.aload_n 0, 1) := by decide +kernel
theorem dX1_replace_116 : decode cX1_replace 116 = .ok (.getfield 33, 3) := by decide +kernel
theorem dX1_replace_119 : decode cX1_replace 119 = .ok (.iload 4, 2) := by decide +kernel
theorem dX1_replace_121 : decode cX1_replace 121 = .ok (.laload, 1) := by decide +kernel
theorem dX1_replace_122 : decode cX1_replace 122 = .ok (.lastore, 1) := by decide +kernel
theorem dX1_replace_123 : decode cX1_replace 123 = .ok (.aload_n 0, 1) := by decide +kernel
theorem dX1_replace_124 : decode cX1_replace 124 = .ok (.getfield 24, 3) := by decide +kernel
theorem dX1_replace_127 : decode cX1_replace 127 = .ok (.aload_n 0, 1) := by decide +kernel
theorem dX1_replace_128 : decode cX1_replace 128 = .ok (.getfield 57, 3) := by decide +kernel
theorem dX1_replace_131 : decode cX1_replace 131 = .ok (.aload_n 0, 1) := by decide +kernel
theorem dX1_replace_132 : decode cX1_replace 132 = .ok (.getfield 36, 3) := by decide +kernel
theorem dX1_replace_135 : decode cX1_replace 135 = .ok (.iload 4, 2) := by decide +kernel
theorem dX1_replace_137 : decode cX1_replace 137 = .ok (.laload, 1) := by decide +kernel
theorem dX1_replace_138 : decode cX1_replace 138 = .ok (.lastore, 1) := by decide +kernel
theorem dX1_replace_139 : decode cX1_replace 139 = .ok (.aload_n 0, 1) := by decide +kernel
theorem dX1_replace_140 : decode cX1_replace 140 = .ok (.dup, 1) := by decide +kernel
theorem dX1_replace_141 : decode cX1_replace 141 = .ok (.getfield 57, 3) := by decide +kernel
theorem dX1_replace_144 : decode cX1_replace 144 = .ok (.iconst 1, 1) := by decide +kernel
theorem dX1_replace_145 : decode cX1_replace 145 = .ok (.iadd, 1) := by decide +kernel
theorem dX1_replace_146 : decode cX1_replace 146 = .ok (.putfield 57, 3) := by decide +kernel
theorem dX1_replace_149 : decode cX1_replace 149 = .ok (.iinc 4 1, 3) := by decide +kernel
theorem dX1_replace_152 : decode cX1_replace 152 = .ok (.goto (-71), 3) := by decide +kernel
theorem dX1_replace_155 : decode cX1_replace 155 = .ok (.return_, 1) := by decide +kernel
theorem dX1_start_0 : decode cX1_start 0 = .ok (.aload_n 0, 1) := by decide +kernel
theorem dX1_start_1 : decode cX1_start 1 = .ok (.aload_n 0, 1) := by decide +kernel
theorem dX1_start_2 : decode cX1_start 2 = .ok (.iload_n 1, 1) := by decide +kernel
theorem dX1_start_3 : decode cX1_start 3 = .ok (.invokevirtual 60, 3) := by decide +kernel
theorem dX1_start_6 : decode cX1_start 6 = .ok (.ifCond .eq 7, 3) := by decide +kernel
theorem dX1_start_9 : decode cX1_start 9 = .ok (.iconst 1, 1) := by decide +kernel
theorem dX1_start_10 : decode cX1_start 10 = .ok (.goto 4, 3) := by decide +kernel
theorem dX1_start_13 : decode cX1_start 13 = .ok (.iconst 0, 1) := by decide +kernel
theorem dX1_start_14 : decode cX1_start 14 = .ok (.putfield 49, 3) := by decide +kernel
theorem dX1_start_17 : decode cX1_start 17 = .ok (.aload_n 0, 1) := by decide +kernel
theorem dX1_start_18 : decode cX1_start 18 = .ok (.getfield 49, 3) := by decide +kernel
theorem dX1_start_21 : decode cX1_start 21 = .ok (.ifCond .le 5, 3) := by decide +kernel
theorem dX1_start_24 : decode cX1_start 24 = .ok (.iconst 0, 1) := by decide +kernel
theorem dX1_start_25 : decode cX1_start 25 = .ok (.ireturn, 1) := by decide +kernel
theorem dX1_start_26 : decode cX1_start 26 = .ok (.aload_n 0, 1) := by decide +kernel
theorem dX1_start_27 : decode cX1_start 27 = .ok (.getfield 57, 3) := by decide +kernel
theorem dX1_start_30 : decode cX1_start 30 = .ok (.istore 4, 2) := by decide +kernel
theorem dX1_start_32 : decode cX1_start 32 = .ok (.aload_n 0, 1) := by decide +kernel
theorem dX1_start_33 : decode cX1_start 33 = .ok (.iload_n 1, 1) := by decide +kernel
theorem dX1_start_34 : decode cX1_start 34 = .ok (.iconst 0, 1) := by decide +kernel
theorem dX1_start_35 : decode cX1_start 35 = .ok (.invokevirtual 72, 3) := by decide +kernel
theorem dX1_start_38 : decode cX1_start 38 = .ok (.aload_n 0, 1) := by decide +kernel
theorem dX1_start_39 : decode cX1_start 39 = .ok (.getfield 7, 3) := by decide +kernel
theorem dX1_start_42 : decode cX1_start 42 = .ok (.iload_n 1, 1) := by decide +kernel
theorem dX1_start_43 : decode cX1_start 43 = .ok (.lload_n 2, 1) := by decide +kernel
theorem dX1_start_44 : decode cX1_start 44 = .ok (.lastore, 1) := by decide +kernel
theorem dX1_start_45 : decode cX1_start 45 = .ok (.iload 4, 2) := by decide +kernel
theorem dX1_start_47 : decode cX1_start 47 = .ok (.aload_n 0, 1) := by decide +kernel
theorem dX1_start_48 : decode cX1_start 48 = .ok (.getfield 57, 3) := by decide +kernel
theorem dX1_start_51 : decode cX1_start 51 = .ok (.isub, 1) := by decide +kernel
theorem dX1_start_52 : decode cX1_start 52 = .ok (.ireturn, 1) := by decide +kernel
theorem dX1_advance_0 : decode cX1_advance 0 = .ok (.aload_n 0, 1) := by decide +kernel
theorem dX1_advance_1 : decode cX1_advance 1 = .ok (.lload_n 1, 1) := by decide +kernel
theorem dX1_advance_2 : decode cX1_advance 2 = .ok (.aload_n 0, 1) := by decide +kernel
theorem dX1_advance_3 : decode cX1_advance 3 = .ok (.getfield 68, 3) := by decide +kernel
theorem dX1_advance_6 : decode cX1_advance 6 = .ok (.lcmp, 1) := by decide +kernel
theorem dX1_advance_7 : decode cX1_advance 7 = .ok (.ifCond .lt 11, 3) := by decide +kernel
theorem dX1_advance_10 : decode cX1_advance 10 = .ok (.lload_n 1, 1) := by decide +kernel
theorem dX1_advance_11 : decode cX1_advance 11 = .ok (.ldc2_w 52, 3) := by decide +kernel
theorem dX1_advance_14 : decode cX1_advance 14 = .ok (.lcmp, 1) := by decide +kernel
theorem dX1_advance_15 : decode cX1_advance 15 = .ok (.ifCond .le 7, 3) := by decide +kernel
theorem dX1_advance_18 : decode cX1_advance 18 = .ok (.iconst 1, 1) := by decide +kernel
theorem dX1_advance_19 : decode cX1_advance 19 = .ok (.goto 4, 3) := by decide +kernel
theorem dX1_advance_22 : decode cX1_advance 22 = .ok (.iconst 0, 1) := by decide +kernel
theorem dX1_advance_23 : decode cX1_advance 23 = .ok (.putfield 49, 3) := by decide +kernel
theorem dX1_advance_26 : decode cX1_advance 26 = .ok (.aload_n 0, 1) := by decide +kernel
theorem dX1_advance_27 : decode cX1_advance 27 = .ok (.getfield 49, 3) := by decide +kernel
theorem dX1_advance_30 : decode cX1_advance 30 = .ok (.ifCond .le 5, 3) := by decide +kernel
theorem dX1_advance_33 : decode cX1_advance 33 = .ok (.iconst 0, 1) := by decide +kernel
theorem dX1_advance_34 : decode cX1_advance 34 = .ok (.ireturn, 1) := by decide +kernel
theorem dX1_advance_35 : decode cX1_advance 35 = .ok (.aload_n 0, 1) := by decide +kernel
theorem dX1_advance_36 : decode cX1_advance 36 = .ok (.lload_n 1, 1) := by decide +kernel
theorem dX1_advance_37 : decode cX1_advance 37 = .ok (.putfield 68, 3) := by decide +kernel
theorem dX1_advance_40 : decode cX1_advance 40 = .ok (.iconst 0, 1) := by decide +kernel
theorem dX1_advance_41 : decode cX1_advance 41 = .ok (.istore_n 3, 1) := by decide +kernel
theorem dX1_advance_42 : decode cX1_advance 42 = .ok (.iload_n 3, 1) := by decide +kernel
theorem dX1_advance_43 : decode cX1_advance 43 = .ok (.aload_n 0, 1) := by decide +kernel
theorem dX1_advance_44 : decode cX1_advance 44 = .ok (.getfield 42, 3) := by decide +kernel
theorem dX1_advance_47 : decode cX1_advance 47 = .ok (.if_icmp .ge 16, 3) := by decide +kernel
theorem dX1_advance_50 : decode cX1_advance 50 = .ok (.aload_n 0, 1) := by decide +kernel
theorem dX1_advance_51 : decode cX1_advance 51 = .ok (.getfield 13, 3) := by decide +kernel
theorem dX1_advance_54 : decode cX1_advance 54 = .ok (.iload_n 3, 1) := by decide +kernel
theorem dX1_advance_55 : decode cX1_advance 55 = .ok (.iconst 0, 1) := by decide +kernel
theorem dX1_advance_56 : decode cX1_advance 56 = .ok (.bastore, 1) := by decide +kernel
theorem dX1_advance_57 : decode cX1_advance 57 = .ok (.iinc 3 1, 3) := by decide +kernel
theorem dX1_advance_60 : decode cX1_advance 60 = .ok (.goto (-18), 3) := by decide +kernel
theorem dX1_advance_63 : decode cX1_advance 63 = .ok (.iconst 0, 1) := by decide +kernel
theorem dX1_advance_64 : decode cX1_advance 64 = .ok (.istore_n 3, 1) := by decide +kernel
theorem dX1_advance_65 : decode cX1_advance 65 = .ok (.iconst 0, 1) := by decide +kernel
theorem dX1_advance_66 : decode cX1_advance 66 = .ok (.istore 4, 2) := by decide +kernel
theorem dX1_advance_68 : decode cX1_advance 68 = .ok (.iload 4, 2) := by decide +kernel
theorem dX1_advance_70 : decode cX1_advance 70 = .ok (.aload_n 0, 1) := by decide +kernel
theorem dX1_advance_71 : decode cX1_advance 71 = .ok (.getfield 57, 3) := by decide +kernel
theorem dX1_advance_74 : decode cX1_advance 74 = .ok (.if_icmp .ge 98, 3) := by decide +kernel
theorem dX1_advance_77 : decode cX1_advance 77 = .ok (.aload_n 0, 1) := by decide +kernel
theorem dX1_advance_78 : decode cX1_advance 78 = .ok (.getfield 21, 3) := by decide +kernel
theorem dX1_advance_81 : decode cX1_advance 81 = .ok (.iload 4, 2) := by decide +kernel
theorem dX1_advance_83 : decode cX1_advance 83 = .ok (.laload, 1) := by decide +kernel
theorem dX1_advance_84 : decode cX1_advance 84 = .ok (.lload_n 1, 1) := by decide +kernel
theorem dX1_advance_85 : decode cX1_advance 85 = .ok (.lcmp, 1) := by decide +kernel
theorem dX1_advance_86 : decode cX1_advance 86 = .ok (.ifCond .gt 38, 3) := by decide +kernel
theorem dX1_advance_89 : decode cX1_advance 89 = .ok (.aload_n 0, 1) := by decide +kernel
theorem dX1_advance_90 : decode cX1_advance 90 = .ok (.getfield 13, 3) := by decide +kernel
theorem dX1_advance_93 : decode cX1_advance 93 = .ok (.aload_n 0, 1) := by decide +kernel
theorem dX1_advance_94 : decode cX1_advance 94 = .ok (.getfield 17, 3) := by decide +kernel
theorem dX1_advance_97 : decode cX1_advance 97 = .ok (.iload 4, 2) := by decide +kernel
theorem dX1_advance_99 : decode cX1_advance 99 = .ok (.iaload, 1) := by decide +kernel
theorem dX1_advance_100 : decode cX1_advance 100 = .ok (.iconst 1, 1) := by decide +kernel
theorem dX1_advance_101 : decode cX1_advance 101 = .ok (.bastore, 1) := by decide +kernel
theorem dX1_advance_102 : decode cX1_advance 102 = .ok (.aload_n 0, 1) := by decide +kernel
theorem dX1_advance_103 : decode cX1_advance 103 = .ok (.getfield 7, 3) := by decide +kernel
theorem dX1_advance_106 : decode cX1_advance 106 = .ok (.aload_n 0, 1) := by decide +kernel
theorem dX1_advance_107 : decode cX1_advance 107 = .ok (.getfield 17, 3) := by decide +kernel
theorem dX1_advance_110 : decode cX1_advance 110 = .ok (.iload 4, 2) := by decide +kernel
theorem dX1_advance_112 : decode cX1_advance 112 = .ok (.iaload, 1) := by decide +kernel
theorem dX1_advance_113 : decode cX1_advance 113 = .ok (.aload_n 0, 1) := by decide +kernel
theorem dX1_advance_114 : decode cX1_advance 114 = .ok (.getfield 24, 3) := by decide +kernel
theorem dX1_advance_117 : decode cX1_advance 117 = .ok (.iload 4, 2) := by decide +kernel
theorem dX1_advance_119 : decode cX1_advance 119 = .ok (.laload, 1) := by decide +kernel
theorem dX1_advance_120 : decode cX1_advance 120 = .ok (.lastore, 1) := by decide +kernel
theorem dX1_advance_121 : decode cX1_advance 121 = .ok (.goto 45, 3) := by decide +kernel
theorem dX1_advance_124 : decode cX1_advance 124 = .ok (.aload_n 0, 1) := by decide +kernel
theorem dX1_advance_125 : decode cX1_advance 125 = .ok (.getfield 17, 3) := by decide +kernel
theorem dX1_advance_128 : decode cX1_advance 128 = .ok (.iload_n 3, 1) := by decide +kernel
theorem dX1_advance_129 : decode cX1_advance 129 = .ok (.aload_n 0, 1) := by decide +kernel
theorem dX1_advance_130 : decode cX1_advance 130 = .ok (.getfield 17, 3) := by decide +kernel
theorem dX1_advance_133 : decode cX1_advance 133 = .ok (.iload 4, 2) := by decide +kernel
theorem dX1_advance_135 : decode cX1_advance 135 = .ok (.iaload, 1) := by decide +kernel
theorem dX1_advance_136 : decode cX1_advance 136 = .ok (.iastore, 1) := by decide +kernel
theorem dX1_advance_137 : decode cX1_advance 137 = .ok (.aload_n 0, 1) := by decide +kernel
theorem dX1_advance_138 : decode cX1_advance 138 = .ok (.getfield 21, 3) := by decide +kernel
theorem dX1_advance_141 : decode cX1_advance 141 = .ok (.iload_n 3, 1) := by decide +kernel
theorem dX1_advance_142 : decode cX1_advance 142 = .ok (.aload_n 0, 1) := by decide +kernel
theorem dX1_advance_143 : decode cX1_advance 143 = .ok (.getfield 21, 3) := by decide +kernel
theorem dX1_advance_146 : decode cX1_advance 146 = .ok (.iload 4, 2) := by decide +kernel
theorem dX1_advance_148 : decode cX1_advance 148 = .ok (.laload, 1) := by decide +kernel
theorem dX1_advance_149 : decode cX1_advance 149 = .ok (.lastore, 1) := by decide +kernel
theorem dX1_advance_150 : decode cX1_advance 150 = .ok (.aload_n 0, 1) := by decide +kernel
theorem dX1_advance_151 : decode cX1_advance 151 = .ok (.getfield 24, 3) := by decide +kernel
theorem dX1_advance_154 : decode cX1_advance 154 = .ok (.iload_n 3, 1) := by decide +kernel
theorem dX1_advance_155 : decode cX1_advance 155 = .ok (.aload_n 0, 1) := by decide +kernel
theorem dX1_advance_156 : decode cX1_advance 156 = .ok (.getfield 24, 3) := by decide +kernel
theorem dX1_advance_159 : decode cX1_advance 159 = .ok (.iload 4, 2) := by decide +kernel
theorem dX1_advance_161 : decode cX1_advance 161 = .ok (.laload, 1) := by decide +kernel
theorem dX1_advance_162 : decode cX1_advance 162 = .ok (.lastore, 1) := by decide +kernel
theorem dX1_advance_163 : decode cX1_advance 163 = .ok (.iinc 3 1, 3) := by decide +kernel
theorem dX1_advance_166 : decode cX1_advance 166 = .ok (.iinc 4 1, 3) := by decide +kernel
theorem dX1_advance_169 : decode cX1_advance 169 = .ok (.goto (-101), 3) := by decide +kernel
theorem dX1_advance_172 : decode cX1_advance 172 = .ok (.aload_n 0, 1) := by decide +kernel
theorem dX1_advance_173 : decode cX1_advance 173 = .ok (.iload_n 3, 1) := by decide +kernel
theorem dX1_advance_174 : decode cX1_advance 174 = .ok (.putfield 57, 3) := by decide +kernel
theorem dX1_advance_177 : decode cX1_advance 177 = .ok (.iconst 0, 1) := by decide +kernel
theorem dX1_advance_178 : decode cX1_advance 178 = .ok (.istore 4, 2) := by decide +kernel
theorem dX1_advance_180 : decode cX1_advance 180 = .ok (.iconst 0, 1) := by decide +kernel
theorem dX1_advance_181 : decode cX1_advance 181 = .ok (.istore 5, 2) := by decide +kernel
theorem dX1_advance_183 : decode cX1_advance 183 = .ok (.iload 5, 2) := by decide +kernel
theorem dX1_advance_185 : decode cX1_advance 185 = .ok (.aload_n 0, 1) := by decide +kernel
theorem dX1_advance_186 : decode cX1_advance 186 = .ok (.getfield 42, 3) := by decide +kernel
theorem dX1_advance_189 : decode cX1_advance 189 = .ok (.if_icmp .ge 30, 3) := by decide +kernel
theorem dX1_advance_192 : decode cX1_advance 192 = .ok (.aload_n 0, 1) := by decide +kernel
theorem dX1_advance_193 : decode cX1_advance 193 = .ok (.getfield 13, 3) := by decide +kernel
theorem dX1_advance_196 : decode cX1_advance 196 = .ok (.iload 5, 2) := by decide +kernel
theorem dX1_advance_198 : decode cX1_advance 198 = .ok (.baload, 1) := by decide +kernel
theorem dX1_advance_199 : decode cX1_advance 199 = .ok (.ifCond .eq 10, 3) := by decide +kernel
theorem dX1_advance_202 : decode cX1_advance 202 = .ok (.iload 4, 2) := by decide +kernel
theorem dX1_advance_204 : decode cX1_advance 204 = .ok (.iconst 1, 1) := by decide +kernel
theorem dX1_advance_205 : decode cX1_advance 205 = .ok (.iadd, 1) := by decide +kernel
theorem dX1_advance_206 : decode cX1_advance 206 = .ok (.goto 5, 3) := by decide +kernel
theorem dX1_advance_209 : decode cX1_advance 209 = .ok (.iload 4, 2) := by decide +kernel
theorem dX1_advance_211 : decode cX1_advance 211 = .ok (.istore 4, 2) := by decide +kernel
theorem dX1_advance_213 : decode cX1_advance 213 = .ok (.iinc 5 1, 3) := by decide +kernel
theorem dX1_advance_216 : decode cX1_advance 216 = .ok (.goto (-33), 3) := by decide +kernel
theorem dX1_advance_219 : decode cX1_advance 219 = .ok (.iload 4, 2) := by decide +kernel
theorem dX1_advance_221 : decode cX1_advance 221 = .ok (.ireturn, 1) := by decide +kernel
theorem dX1_active_0 : decode cX1_active 0 = .ok (.aload_n 0, 1) := by decide +kernel
theorem dX1_active_1 : decode cX1_active 1 = .ok (.iconst 0, 1) := by decide +kernel
theorem dX1_active_2 : decode cX1_active 2 = .ok (.putfield 49, 3) := by decide +kernel
theorem dX1_active_5 : decode cX1_active 5 = .ok (.iconst 0, 1) := by decide +kernel
theorem dX1_active_6 : decode cX1_active 6 = .ok (.istore_n 2, 1) := by decide +kernel
theorem dX1_active_7 : decode cX1_active 7 = .ok (.iconst 0, 1) := by decide +kernel
theorem dX1_active_8 : decode cX1_active 8 = .ok (.istore_n 3, 1) := by decide +kernel
theorem dX1_active_9 : decode cX1_active 9 = .ok (.iload_n 3, 1) := by decide +kernel
theorem dX1_active_10 : decode cX1_active 10 = .ok (.aload_n 0, 1) := by decide +kernel
theorem dX1_active_11 : decode cX1_active 11 = .ok (.getfield 42, 3) := by decide +kernel
theorem dX1_active_14 : decode cX1_active 14 = .ok (.if_icmp .ge 32, 3) := by decide +kernel
theorem dX1_active_17 : decode cX1_active 17 = .ok (.iload_n 1, 1) := by decide +kernel
theorem dX1_active_18 : decode cX1_active 18 = .ok (.ifCond .lt 28, 3) := by decide +kernel
theorem dX1_active_21 : decode cX1_active 21 = .ok (.aload_n 0, 1) := by decide +kernel
theorem dX1_active_22 : decode cX1_active 22 = .ok (.getfield 13, 3) := by decide +kernel
theorem dX1_active_25 : decode cX1_active 25 = .ok (.iload_n 3, 1) := by decide +kernel
theorem dX1_active_26 : decode cX1_active 26 = .ok (.baload, 1) := by decide +kernel
theorem dX1_active_27 : decode cX1_active 27 = .ok (.ifCond .eq 13, 3) := by decide +kernel
theorem dX1_active_30 : decode cX1_active 30 = .ok (.iload_n 2, 1) := by decide +kernel
theorem dX1_active_31 : decode cX1_active 31 = .ok (.iload_n 1, 1) := by decide +kernel
theorem dX1_active_32 : decode cX1_active 32 = .ok (.if_icmp .ne 5, 3) := by decide +kernel
theorem dX1_active_35 : decode cX1_active 35 = .ok (.iload_n 3, 1) := by decide +kernel
theorem dX1_active_36 : decode cX1_active 36 = .ok (.ireturn, 1) := by decide +kernel
theorem dX1_active_37 : decode cX1_active 37 = .ok (.iinc 2 1, 3) := by decide +kernel
theorem dX1_active_40 : decode cX1_active 40 = .ok (.iinc 3 1, 3) := by decide +kernel
theorem dX1_active_43 : decode cX1_active 43 = .ok (.goto (-34), 3) := by decide +kernel
theorem dX1_active_46 : decode cX1_active 46 = .ok (.iconst (-1), 1) := by decide +kernel
theorem dX1_active_47 : decode cX1_active 47 = .ok (.ireturn, 1) := by decide +kernel
theorem dX1_now_0 : decode cX1_now 0 = .ok (.aload_n 0, 1) := by decide +kernel
theorem dX1_now_1 : decode cX1_now 1 = .ok (.iconst 0, 1) := by decide +kernel
theorem dX1_now_2 : decode cX1_now 2 = .ok (.putfield 49, 3) := by decide +kernel
theorem dX1_now_5 : decode cX1_now 5 = .ok (.aload_n 0, 1) := by decide +kernel
theorem dX1_now_6 : decode cX1_now 6 = .ok (.getfield 68, 3) := by decide +kernel
theorem dX1_now_9 : decode cX1_now 9 = .ok (.lreturn, 1) := by decide +kernel
theorem dX1_next_0 : decode cX1_next 0 = .ok (.aload_n 0, 1) := by decide +kernel
theorem dX1_next_1 : decode cX1_next 1 = .ok (.iconst 0, 1) := by decide +kernel
theorem dX1_next_2 : decode cX1_next 2 = .ok (.putfield 49, 3) := by decide +kernel
theorem dX1_next_5 : decode cX1_next 5 = .ok (.ldc2_w 76, 3) := by decide +kernel
theorem dX1_next_8 : decode cX1_next 8 = .ok (.lstore_n 1, 1) := by decide +kernel
theorem dX1_next_9 : decode cX1_next 9 = .ok (.iconst 0, 1) := by decide +kernel
theorem dX1_next_10 : decode cX1_next 10 = .ok (.istore_n 3, 1) := by decide +kernel
theorem dX1_next_11 : decode cX1_next 11 = .ok (.iload_n 3, 1) := by decide +kernel
theorem dX1_next_12 : decode cX1_next 12 = .ok (.aload_n 0, 1) := by decide +kernel
theorem dX1_next_13 : decode cX1_next 13 = .ok (.getfield 57, 3) := by decide +kernel
theorem dX1_next_16 : decode cX1_next 16 = .ok (.if_icmp .ge 39, 3) := by decide +kernel
theorem dX1_next_19 : decode cX1_next 19 = .ok (.lload_n 1, 1) := by decide +kernel
theorem dX1_next_20 : decode cX1_next 20 = .ok (.ldc2_w 76, 3) := by decide +kernel
theorem dX1_next_23 : decode cX1_next 23 = .ok (.lcmp, 1) := by decide +kernel
theorem dX1_next_24 : decode cX1_next 24 = .ok (.ifCond .eq 14, 3) := by decide +kernel
theorem dX1_next_27 : decode cX1_next 27 = .ok (.aload_n 0, 1) := by decide +kernel
theorem dX1_next_28 : decode cX1_next 28 = .ok (.getfield 21, 3) := by decide +kernel
theorem dX1_next_31 : decode cX1_next 31 = .ok (.iload_n 3, 1) := by decide +kernel
theorem dX1_next_32 : decode cX1_next 32 = .ok (.laload, 1) := by decide +kernel
theorem dX1_next_33 : decode cX1_next 33 = .ok (.lload_n 1, 1) := by decide +kernel
theorem dX1_next_34 : decode cX1_next 34 = .ok (.lcmp, 1) := by decide +kernel
theorem dX1_next_35 : decode cX1_next 35 = .ok (.ifCond .ge 12, 3) := by decide +kernel
theorem dX1_next_38 : decode cX1_next 38 = .ok (.aload_n 0, 1) := by decide +kernel
theorem dX1_next_39 : decode cX1_next 39 = .ok (.getfield 21, 3) := by decide +kernel
theorem dX1_next_42 : decode cX1_next 42 = .ok (.iload_n 3, 1) := by decide +kernel
theorem dX1_next_43 : decode cX1_next 43 = .ok (.laload, 1) := by decide +kernel
theorem dX1_next_44 : decode cX1_next 44 = .ok (.goto 4, 3) := by decide +kernel
theorem dX1_next_47 : decode cX1_next 47 = .ok (.lload_n 1, 1) := by decide +kernel
theorem dX1_next_48 : decode cX1_next 48 = .ok (.lstore_n 1, 1) := by decide +kernel
theorem dX1_next_49 : decode cX1_next 49 = .ok (.iinc 3 1, 3) := by decide +kernel
theorem dX1_next_52 : decode cX1_next 52 = .ok (.goto (-41), 3) := by decide +kernel
theorem dX1_next_55 : decode cX1_next 55 = .ok (.lload_n 1, 1) := by decide +kernel
theorem dX1_next_56 : decode cX1_next 56 = .ok (.lreturn, 1) := by decide +kernel
theorem dX1_value_0 : decode cX1_value 0 = .ok (.aload_n 0, 1) := by decide +kernel
theorem dX1_value_1 : decode cX1_value 1 = .ok (.aload_n 0, 1) := by decide +kernel
theorem dX1_value_2 : decode cX1_value 2 = .ok (.iload_n 1, 1) := by decide +kernel
theorem dX1_value_3 : decode cX1_value 3 = .ok (.invokevirtual 60, 3) := by decide +kernel
theorem dX1_value_6 : decode cX1_value 6 = .ok (.ifCond .eq 7, 3) := by decide +kernel
theorem dX1_value_9 : decode cX1_value 9 = .ok (.iconst 1, 1) := by decide +kernel
theorem dX1_value_10 : decode cX1_value 10 = .ok (.goto 4, 3) := by decide +kernel
theorem dX1_value_13 : decode cX1_value 13 = .ok (.iconst 0, 1) := by decide +kernel
theorem dX1_value_14 : decode cX1_value 14 = .ok (.putfield 49, 3) := by decide +kernel
theorem dX1_value_17 : decode cX1_value 17 = .ok (.aload_n 0, 1) := by decide +kernel
theorem dX1_value_18 : decode cX1_value 18 = .ok (.getfield 49, 3) := by decide +kernel
theorem dX1_value_21 : decode cX1_value 21 = .ok (.ifCond .le 7, 3) := by decide +kernel
theorem dX1_value_24 : decode cX1_value 24 = .ok (.lconst 0, 1) := by decide +kernel
theorem dX1_value_25 : decode cX1_value 25 = .ok (.goto 9, 3) := by decide +kernel
theorem dX1_value_28 : decode cX1_value 28 = .ok (.aload_n 0, 1) := by decide +kernel
theorem dX1_value_29 : decode cX1_value 29 = .ok (.getfield 7, 3) := by decide +kernel
theorem dX1_value_32 : decode cX1_value 32 = .ok (.iload_n 1, 1) := by decide +kernel
theorem dX1_value_33 : decode cX1_value 33 = .ok (.laload, 1) := by decide +kernel
theorem dX1_value_34 : decode cX1_value 34 = .ok (.lreturn, 1) := by decide +kernel
theorem dX1_count_0 : decode cX1_count 0 = .ok (.aload_n 0, 1) := by decide +kernel
theorem dX1_count_1 : decode cX1_count 1 = .ok (.aload_n 0, 1) := by decide +kernel
theorem dX1_count_2 : decode cX1_count 2 = .ok (.iload_n 1, 1) := by decide +kernel
theorem dX1_count_3 : decode cX1_count 3 = .ok (.invokevirtual 60, 3) := by decide +kernel
theorem dX1_count_6 : decode cX1_count 6 = .ok (.ifCond .eq 7, 3) := by decide +kernel
theorem dX1_count_9 : decode cX1_count 9 = .ok (.iconst 1, 1) := by decide +kernel
theorem dX1_count_10 : decode cX1_count 10 = .ok (.goto 4, 3) := by decide +kernel
theorem dX1_count_13 : decode cX1_count 13 = .ok (.iconst 0, 1) := by decide +kernel
theorem dX1_count_14 : decode cX1_count 14 = .ok (.putfield 49, 3) := by decide +kernel
theorem dX1_count_17 : decode cX1_count 17 = .ok (.iconst 0, 1) := by decide +kernel
theorem dX1_count_18 : decode cX1_count 18 = .ok (.istore_n 2, 1) := by decide +kernel
theorem dX1_count_19 : decode cX1_count 19 = .ok (.iconst 0, 1) := by decide +kernel
theorem dX1_count_20 : decode cX1_count 20 = .ok (.istore_n 3, 1) := by decide +kernel
theorem dX1_count_21 : decode cX1_count 21 = .ok (.iload_n 3, 1) := by decide +kernel
theorem dX1_count_22 : decode cX1_count 22 = .ok (.aload_n 0, 1) := by decide +kernel
theorem dX1_count_23 : decode cX1_count 23 = .ok (.getfield 57, 3) := by decide +kernel
theorem dX1_count_26 : decode cX1_count 26 = .ok (.if_icmp .ge 34, 3) := by decide +kernel
theorem dX1_count_29 : decode cX1_count 29 = .ok (.aload_n 0, 1) := by decide +kernel
theorem dX1_count_30 : decode cX1_count 30 = .ok (.getfield 49, 3) := by decide +kernel
theorem dX1_count_33 : decode cX1_count 33 = .ok (.ifCond .ne 27, 3) := by decide +kernel
theorem dX1_count_36 : decode cX1_count 36 = .ok (.aload_n 0, 1) := by decide +kernel
theorem dX1_count_37 : decode cX1_count 37 = .ok (.getfield 17, 3) := by decide +kernel
theorem dX1_count_40 : decode cX1_count 40 = .ok (.iload_n 3, 1) := by decide +kernel
theorem dX1_count_41 : decode cX1_count 41 = .ok (.iaload, 1) := by decide +kernel
theorem dX1_count_42 : decode cX1_count 42 = .ok (.iload_n 1, 1) := by decide +kernel
theorem dX1_count_43 : decode cX1_count 43 = .ok (.if_icmp .ne 9, 3) := by decide +kernel
theorem dX1_count_46 : decode cX1_count 46 = .ok (.iload_n 2, 1) := by decide +kernel
theorem dX1_count_47 : decode cX1_count 47 = .ok (.iconst 1, 1) := by decide +kernel
theorem dX1_count_48 : decode cX1_count 48 = .ok (.iadd, 1) := by decide +kernel
theorem dX1_count_49 : decode cX1_count 49 = .ok (.goto 4, 3) := by decide +kernel
theorem dX1_count_52 : decode cX1_count 52 = .ok (.iload_n 2, 1) := by decide +kernel
theorem dX1_count_53 : decode cX1_count 53 = .ok (.istore_n 2, 1) := by decide +kernel
theorem dX1_count_54 : decode cX1_count 54 = .ok (.iinc 3 1, 3) := by decide +kernel
theorem dX1_count_57 : decode cX1_count 57 = .ok (.goto (-36), 3) := by decide +kernel
theorem dX1_count_60 : decode cX1_count 60 = .ok (.iload_n 2, 1) := by decide +kernel
theorem dX1_count_61 : decode cX1_count 61 = .ok (.ireturn, 1) := by decide +kernel
theorem dX1_at_0 : decode cX1_at 0 = .ok (.aload_n 0, 1) := by decide +kernel
theorem dX1_at_1 : decode cX1_at 1 = .ok (.iload_n 1, 1) := by decide +kernel
theorem dX1_at_2 : decode cX1_at 2 = .ok (.invokevirtual 60, 3) := by decide +kernel
theorem dX1_at_5 : decode cX1_at 5 = .ok (.ifCond .ne 7, 3) := by decide +kernel
theorem dX1_at_8 : decode cX1_at 8 = .ok (.iload_n 2, 1) := by decide +kernel
theorem dX1_at_9 : decode cX1_at 9 = .ok (.ifCond .ge 7, 3) := by decide +kernel
theorem dX1_at_12 : decode cX1_at 12 = .ok (.iconst (-1), 1) := by decide +kernel
theorem dX1_at_13 : decode cX1_at 13 = .ok (.goto 9, 3) := by decide +kernel
theorem dX1_at_16 : decode cX1_at 16 = .ok (.aload_n 0, 1) := by decide +kernel
theorem dX1_at_17 : decode cX1_at 17 = .ok (.iload_n 1, 1) := by decide +kernel
theorem dX1_at_18 : decode cX1_at 18 = .ok (.iload_n 2, 1) := by decide +kernel
theorem dX1_at_19 : decode cX1_at 19 = .ok (.invokevirtual 78, 3) := by decide +kernel
theorem dX1_at_22 : decode cX1_at 22 = .ok (.istore 4, 2) := by decide +kernel
theorem dX1_at_24 : decode cX1_at 24 = .ok (.aload_n 0, 1) := by decide +kernel
theorem dX1_at_25 : decode cX1_at 25 = .ok (.iload 4, 2) := by decide +kernel
theorem dX1_at_27 : decode cX1_at 27 = .ok (.iconst (-1), 1) := by decide +kernel
theorem dX1_at_28 : decode cX1_at 28 = .ok (.if_icmp .ne 7, 3) := by decide +kernel
theorem dX1_at_31 : decode cX1_at 31 = .ok (.iconst 1, 1) := by decide +kernel
theorem dX1_at_32 : decode cX1_at 32 = .ok (.goto 4, 3) := by decide +kernel
theorem dX1_at_35 : decode cX1_at 35 = .ok (.iconst 0, 1) := by decide +kernel
theorem dX1_at_36 : decode cX1_at 36 = .ok (.putfield 49, 3) := by decide +kernel
theorem dX1_at_39 : decode cX1_at 39 = .ok (.aload_n 0, 1) := by decide +kernel
theorem dX1_at_40 : decode cX1_at 40 = .ok (.getfield 49, 3) := by decide +kernel
theorem dX1_at_43 : decode cX1_at 43 = .ok (.ifCond .le 7, 3) := by decide +kernel
theorem dX1_at_46 : decode cX1_at 46 = .ok (.lconst 0, 1) := by decide +kernel
theorem dX1_at_47 : decode cX1_at 47 = .ok (.goto 24, 3) := by decide +kernel
theorem dX1_at_50 : decode cX1_at 50 = .ok (.iload_n 3, 1) := by decide +kernel
theorem dX1_at_51 : decode cX1_at 51 = .ok (.ifCond .eq 13, 3) := by decide +kernel
theorem dX1_at_54 : decode cX1_at 54 = .ok (.aload_n 0, 1) := by decide +kernel
theorem dX1_at_55 : decode cX1_at 55 = .ok (.getfield 21, 3) := by decide +kernel
theorem dX1_at_58 : decode cX1_at 58 = .ok (.iload 4, 2) := by decide +kernel
theorem dX1_at_60 : decode cX1_at 60 = .ok (.laload, 1) := by decide +kernel
theorem dX1_at_61 : decode cX1_at 61 = .ok (.goto 10, 3) := by decide +kernel
theorem dX1_at_64 : decode cX1_at 64 = .ok (.aload_n 0, 1) := by decide +kernel
theorem dX1_at_65 : decode cX1_at 65 = .ok (.getfield 24, 3) := by decide +kernel
theorem dX1_at_68 : decode cX1_at 68 = .ok (.iload 4, 2) := by decide +kernel
theorem dX1_at_70 : decode cX1_at 70 = .ok (.laload, 1) := by decide +kernel
theorem dX1_at_71 : decode cX1_at 71 = .ok (.lreturn, 1) := by decide +kernel
theorem dX1_find_0 : decode cX1_find 0 = .ok (.iconst 0, 1) := by decide +kernel
theorem dX1_find_1 : decode cX1_find 1 = .ok (.istore_n 3, 1) := by decide +kernel
theorem dX1_find_2 : decode cX1_find 2 = .ok (.iconst 0, 1) := by decide +kernel
theorem dX1_find_3 : decode cX1_find 3 = .ok (.istore 4, 2) := by decide +kernel
theorem dX1_find_5 : decode cX1_find 5 = .ok (.iload 4, 2) := by decide +kernel
theorem dX1_find_7 : decode cX1_find 7 = .ok (.aload_n 0, 1) := by decide +kernel
theorem dX1_find_8 : decode cX1_find 8 = .ok (.getfield 57, 3) := by decide +kernel
theorem dX1_find_11 : decode cX1_find 11 = .ok (.if_icmp .ge 31, 3) := by decide +kernel
theorem dX1_find_14 : decode cX1_find 14 = .ok (.aload_n 0, 1) := by decide +kernel
theorem dX1_find_15 : decode cX1_find 15 = .ok (.getfield 17, 3) := by decide +kernel
theorem dX1_find_18 : decode cX1_find 18 = .ok (.iload 4, 2) := by decide +kernel
theorem dX1_find_20 : decode cX1_find 20 = .ok (.iaload, 1) := by decide +kernel
theorem dX1_find_21 : decode cX1_find 21 = .ok (.iload_n 1, 1) := by decide +kernel
theorem dX1_find_22 : decode cX1_find 22 = .ok (.if_icmp .ne 14, 3) := by decide +kernel
theorem dX1_find_25 : decode cX1_find 25 = .ok (.iload_n 3, 1) := by decide +kernel
theorem dX1_find_26 : decode cX1_find 26 = .ok (.iload_n 2, 1) := by decide +kernel
theorem dX1_find_27 : decode cX1_find 27 = .ok (.if_icmp .ne 6, 3) := by decide +kernel
theorem dX1_find_30 : decode cX1_find 30 = .ok (.iload 4, 2) := by decide +kernel
theorem dX1_find_32 : decode cX1_find 32 = .ok (.ireturn, 1) := by decide +kernel
theorem dX1_find_33 : decode cX1_find 33 = .ok (.iinc 3 1, 3) := by decide +kernel
theorem dX1_find_36 : decode cX1_find 36 = .ok (.iinc 4 1, 3) := by decide +kernel
theorem dX1_find_39 : decode cX1_find 39 = .ok (.goto (-34), 3) := by decide +kernel
theorem dX1_find_42 : decode cX1_find 42 = .ok (.iconst (-1), 1) := by decide +kernel
theorem dX1_find_43 : decode cX1_find 43 = .ok (.ireturn, 1) := by decide +kernel
theorem dX1_projected_0 : decode cX1_projected 0 = .ok (.aload_n 0, 1) := by decide +kernel
theorem dX1_projected_1 : decode cX1_projected 1 = .ok (.aload_n 0, 1) := by decide +kernel
theorem dX1_projected_2 : decode cX1_projected 2 = .ok (.iload_n 1, 1) := by decide +kernel
theorem dX1_projected_3 : decode cX1_projected 3 = .ok (.invokevirtual 60, 3) := by decide +kernel
theorem dX1_projected_6 : decode cX1_projected 6 = .ok (.ifCond .eq 7, 3) := by decide +kernel
theorem dX1_projected_9 : decode cX1_projected 9 = .ok (.iconst 1, 1) := by decide +kernel
theorem dX1_projected_10 : decode cX1_projected 10 = .ok (.goto 17, 3) := by decide +kernel
theorem dX1_projected_13 : decode cX1_projected 13 = .ok (.lload_n 2, 1) := by decide +kernel
theorem dX1_projected_14 : decode cX1_projected 14 = .ok (.aload_n 0, 1) := by decide +kernel
theorem dX1_projected_15 : decode cX1_projected 15 = .ok (.getfield 68, 3) := by decide +kernel
theorem dX1_projected_18 : decode cX1_projected 18 = .ok (.lcmp, 1) := by decide +kernel
theorem dX1_projected_19 : decode cX1_projected 19 = .ok (.ifCond .ge 7, 3) := by decide +kernel
theorem dX1_projected_22 : decode cX1_projected 22 = .ok (.iconst 2, 1) := by decide +kernel
theorem dX1_projected_23 : decode cX1_projected 23 = .ok (.goto 4, 3) := by decide +kernel
theorem dX1_projected_26 : decode cX1_projected 26 = .ok (.iconst 0, 1) := by decide +kernel
theorem dX1_projected_27 : decode cX1_projected 27 = .ok (.putfield 49, 3) := by decide +kernel
theorem dX1_projected_30 : decode cX1_projected 30 = .ok (.aload_n 0, 1) := by decide +kernel
theorem dX1_projected_31 : decode cX1_projected 31 = .ok (.getfield 49, 3) := by decide +kernel
theorem dX1_projected_34 : decode cX1_projected 34 = .ok (.ifCond .le 5, 3) := by decide +kernel
theorem dX1_projected_37 : decode cX1_projected 37 = .ok (.lconst 0, 1) := by decide +kernel
theorem dX1_projected_38 : decode cX1_projected 38 = .ok (.lreturn, 1) := by decide +kernel
theorem dX1_projected_39 : decode cX1_projected 39 = .ok (.aload_n 0, 1) := by decide +kernel
theorem dX1_projected_40 : decode cX1_projected 40 = .ok (.getfield 7, 3) := by decide +kernel
theorem dX1_projected_43 : decode cX1_projected 43 = .ok (.iload_n 1, 1) := by decide +kernel
theorem dX1_projected_44 : decode cX1_projected 44 = .ok (.laload, 1) := by decide +kernel
theorem dX1_projected_45 : decode cX1_projected 45 = .ok (.lstore 4, 2) := by decide +kernel
theorem dX1_projected_47 : decode cX1_projected 47 = .ok (.iconst 0, 1) := by decide +kernel
theorem dX1_projected_48 : decode cX1_projected 48 = .ok (.istore 6, 2) := by decide +kernel
theorem dX1_projected_50 : decode cX1_projected 50 = .ok (.iload 6, 2) := by decide +kernel
theorem dX1_projected_52 : decode cX1_projected 52 = .ok (.aload_n 0, 1) := by decide +kernel
theorem dX1_projected_53 : decode cX1_projected 53 = .ok (.getfield 57, 3) := by decide +kernel
theorem dX1_projected_56 : decode cX1_projected 56 = .ok (.if_icmp .ge 46, 3) := by decide +kernel
theorem dX1_projected_59 : decode cX1_projected 59 = .ok (.aload_n 0, 1) := by decide +kernel
theorem dX1_projected_60 : decode cX1_projected 60 = .ok (.getfield 17, 3) := by decide +kernel
theorem dX1_projected_63 : decode cX1_projected 63 = .ok (.iload 6, 2) := by decide +kernel
theorem dX1_projected_65 : decode cX1_projected 65 = .ok (.iaload, 1) := by decide +kernel
theorem dX1_projected_66 : decode cX1_projected 66 = .ok (.iload_n 1, 1) := by decide +kernel
theorem dX1_projected_67 : decode cX1_projected 67 = .ok (.if_icmp .ne 25, 3) := by decide +kernel
theorem dX1_projected_70 : decode cX1_projected 70 = .ok (.aload_n 0, 1) := by decide +kernel
theorem dX1_projected_71 : decode cX1_projected 71 = .ok (.getfield 21, 3) := by decide +kernel
theorem dX1_projected_74 : decode cX1_projected 74 = .ok (.iload 6, 2) := by decide +kernel
theorem dX1_projected_76 : decode cX1_projected 76 = .ok (.laload, 1) := by decide +kernel
theorem dX1_projected_77 : decode cX1_projected 77 = .ok (.lload_n 2, 1) := by decide +kernel
theorem dX1_projected_78 : decode cX1_projected 78 = .ok (.lcmp, 1) := by decide +kernel
theorem dX1_projected_79 : decode cX1_projected 79 = .ok (.ifCond .gt 13, 3) := by decide +kernel
theorem dX1_projected_82 : decode cX1_projected 82 = .ok (.aload_n 0, 1) := by decide +kernel
theorem dX1_projected_83 : decode cX1_projected 83 = .ok (.getfield 24, 3) := by decide +kernel
theorem dX1_projected_86 : decode cX1_projected 86 = .ok (.iload 6, 2) := by decide +kernel
theorem dX1_projected_88 : decode cX1_projected 88 = .ok (.laload, 1) := by decide +kernel
theorem dX1_projected_89 : decode cX1_projected 89 = .ok (.goto 5, 3) := by decide +kernel
theorem dX1_projected_92 : decode cX1_projected 92 = .ok (.lload 4, 2) := by decide +kernel
theorem dX1_projected_94 : decode cX1_projected 94 = .ok (.lstore 4, 2) := by decide +kernel
theorem dX1_projected_96 : decode cX1_projected 96 = .ok (.iinc 6 1, 3) := by decide +kernel
theorem dX1_projected_99 : decode cX1_projected 99 = .ok (.goto (-49), 3) := by decide +kernel
theorem dX1_projected_102 : decode cX1_projected 102 = .ok (.lload 4, 2) := by decide +kernel
theorem dX1_projected_104 : decode cX1_projected 104 = .ok (.lreturn, 1) := by decide +kernel
theorem dX1_total_0 : decode cX1_total 0 = .ok (.aload_n 0, 1) := by decide +kernel
theorem dX1_total_1 : decode cX1_total 1 = .ok (.iconst 0, 1) := by decide +kernel
theorem dX1_total_2 : decode cX1_total 2 = .ok (.putfield 49, 3) := by decide +kernel
theorem dX1_total_5 : decode cX1_total 5 = .ok (.aload_n 0, 1) := by decide +kernel
theorem dX1_total_6 : decode cX1_total 6 = .ok (.getfield 57, 3) := by decide +kernel
theorem dX1_total_9 : decode cX1_total 9 = .ok (.ireturn, 1) := by decide +kernel
end
section
set_option maxHeartbeats 4000000 in
set_option maxRecDepth 100000 in
theorem c_rowLength (l : Launch) (dC : Nat → ClassId) (dI : Nat → Nat → Nat) (x a1 a2 a3 a4 a5 a6 a7 : Nat) (cI cJ : ClassId) (nD nR : Nat) (dv : Nat → Int64) (r : Nat → Nat) (cap : Nat) (ti va ev ed : Nat → Int64) (ec : Nat) (ad : Nat → Int32) (ac : Nat) (now : Int64) (hI : wf_R nD nR cap ec ac r) (d : Nat) (hd : d < nD) : Met l yX0_rowLength wsX0_rowLength ({ frames := 0, cells := 0, slots := 0, locals := 0 }) (va_Pc [.ref x, .int (nI d)] (fun U => va_P (dC, dI) vwCl (wr x a1 a2 a3 a4 a5 a6 a7 cI cJ nD nR dv r cap ti va ev ed ec ad ac now) U.heap ∧ va_K (dC, dI) vwCl [(cI, .int), (cJ, .long)] U)) (vp_Si (fun v => v = nI (r (d + 1) - r d))) 0 0 (fun _ => False) := by
  refine Met.ofW (cc := cX0_rowLength) (maxL := 2) (ret := (some .int)) (by decide) rfl ?_
  intro p e s m args below meth c s₁ B hml hv
  obtain ⟨rfl, hP, hK⟩ := hv
  have hx := B.exec
  have hb := B.bytes
  have hr := B.returns
  have hts := atoms_spec (ws := wsX0_rowLength) B.pre
  have hown : s.vm.findClass RX0 = some m.cls := findClass_of_methodNamed B.named
  have hlocks := B.notSynchronized
  have hall := fun (w : Cond) (h : w ∈ allw) => hts w (List.mem_cons_of_mem _ h)
  have hl := lv_entry ([.ref x, .int (nI d)]) (n := 2) (Nat.le_of_ble_eq_true rfl)
  rw [lg_entry_eq]
  generalize (lg_sl ([.ref x, .int (nI d)]) ++ List.replicate (2 - (lg_sl ([.ref x, .int (nI d)])).length) Slot.unset).toArray = ls at hl ⊢
  have hl : lv_has ls 2 [(0, .ref x), (1, .int (nI d))] := hl
  obtain ⟨hnD1, hnD, hnR1, hnR, hcap, hrc, hrR, hr0, hmo, hec, hac⟩ := hI
  refine lv_aload_n hx hb dX0_rowLength_0 rfl (lv_at hl 0 rfl) ?_
  refine va_get (D := (dC, dI)) (ci := 0) (v := .ref a2) (C := RX0) (T := TX0) (N := 12) hx hb hall inX0 hown hK hP 0 rfl rfl 3 (by decide) (hall _ kw_26) (fun _ h9 => h9) rfl dX0_rowLength_1 ?_
  refine lv_iload_n hx hb dX0_rowLength_4 rfl (lv_at hl 1 rfl) ?_
  refine lv_iconst (v := 1) hx hb dX0_rowLength_5 (by decide) ?_
  refine lv_iadd hx hb dX0_rowLength_6 ?_
  refine tp_i (y := nI (d + 1)) (nI_1 d) ?_
  refine xa_iald hx hb hK hP 2 0 rfl rfl (by omega) (by omega) dX0_rowLength_7 ?_
  refine lv_aload_n hx hb dX0_rowLength_8 rfl (lv_at hl 0 rfl) ?_
  refine va_get (D := (dC, dI)) (ci := 0) (v := .ref a2) (C := RX0) (T := TX0) (N := 12) hx hb hall inX0 hown hK hP 0 rfl rfl 3 (by decide) (hall _ kw_26) (fun _ h9 => h9) rfl dX0_rowLength_9 ?_
  refine lv_iload_n hx hb dX0_rowLength_12 rfl (lv_at hl 1 rfl) ?_
  refine xa_iald hx hb hK hP 2 0 rfl rfl (by omega) (by omega) dX0_rowLength_13 ?_
  refine lv_isub hx hb dX0_rowLength_14 ?_
  refine tp_i (y := nI (r (d + 1) - r d)) (pk_sub (hmo d hd)) ?_
  exact W.iret (v := nI (r (d + 1) - r d)) hx hb hr (fun t9 ht hW => ⟨nI (r (d + 1) - r d), rfl, rfl, ht⟩) (fun q hq => nomatch hq) dX0_rowLength_15
set_option maxHeartbeats 4000000 in
set_option maxRecDepth 100000 in
theorem c_firstBehind (l : Launch) (dC : Nat → ClassId) (dI : Nat → Nat → Nat) (x a1 a2 a3 a4 a5 a6 a7 : Nat) (cI cJ : ClassId) (nD nR : Nat) (dv : Nat → Int64) (r : Nat → Nat) (cap : Nat) (ti va ev ed : Nat → Int64) (ec : Nat) (ad : Nat → Int32) (ac : Nat) (now : Int64) (a b : Nat) (t : Int64) (hab : a ≤ b) (hbc : b ≤ cap) (hcap : cap ≤ 8192) : Met l yX0_firstBehind wsX0_firstBehind ({ frames := 0, cells := 0, slots := 0, locals := 0 }) (va_Pc [.ref x, .int (nI a), .int (nI b), .long t] (fun U => va_P (dC, dI) vwCl (wr x a1 a2 a3 a4 a5 a6 a7 cI cJ nD nR dv r cap ti va ev ed ec ad ac now) U.heap ∧ va_K (dC, dI) vwCl [(cI, .int), (cJ, .long)] U)) (vp_Si (fun v => v = nI (wf_fb ti t (b - a) a))) 0 0 (fun _ => False) := by
  refine Met.ofW (cc := cX0_firstBehind) (maxL := 6) (ret := (some .int)) (by decide) rfl ?_
  intro p e s m args below meth c s₁ B hml hv
  obtain ⟨rfl, hP, hK⟩ := hv
  have hx := B.exec
  have hb := B.bytes
  have hr := B.returns
  have hts := atoms_spec (ws := wsX0_firstBehind) B.pre
  have hown : s.vm.findClass RX0 = some m.cls := findClass_of_methodNamed B.named
  have hlocks := B.notSynchronized
  have hall := fun (w : Cond) (h : w ∈ allw) => hts w (List.mem_cons_of_mem _ h)
  have hl := lv_entry ([.ref x, .int (nI a), .int (nI b), .long t]) (n := 6) (Nat.le_of_ble_eq_true rfl)
  rw [lg_entry_eq]
  generalize (lg_sl ([.ref x, .int (nI a), .int (nI b), .long t]) ++ List.replicate (6 - (lg_sl ([.ref x, .int (nI a), .int (nI b), .long t])).length) Slot.unset).toArray = ls at hl ⊢
  have hl : lv_has ls 6 [(0, .ref x), (1, .int (nI a)), (2, .int (nI b)), (3, .long t)] := hl
  refine lv_iload_n hx hb dX0_firstBehind_0 rfl (lv_at hl 1 rfl) ?_
  refine lv_istore (lv' := [(5, .int (nI a)), (0, .ref x), (1, .int (nI a)), (2, .int (nI b)), (3, .long t)]) hx hb dX0_firstBehind_1 hl (by decide) rfl (fun ls hl => ?_)
  have hloop : ∀ (n k : Nat) (ls : Array Slot), k + n = b → wf_fb ti t n k = wf_fb ti t (b - a) a → lv_has ls 6 [(0, .ref x), (2, .int (nI b)), (3, .long t), (5, .int (nI k))] → W p l e (headSpec wsX0_firstBehind ({ frames := 0, cells := 0, slots := 0, locals := 0 })).room s m (([.ref x, .int (nI a), .int (nI b), .long t] : List Value).toArray) below meth c s.heap [] 0 0 (MQ below (vp_Si (fun v => v = nI (wf_fb ti t (b - a) a))) (([.ref x, .int (nI a), .int (nI b), .long t] : List Value).toArray) s 0 0 (fun _ => False)) (F0 m 3 ls []) := by
    intro n
    induction n with
    | zero =>
      intro k ls hk hw hl
      refine lv_iload hx hb dX0_firstBehind_3 (lv_at hl 3 rfl) ?_
      refine lv_iload_n hx hb dX0_firstBehind_5 rfl (lv_at hl 1 rfl) ?_
      refine xc_ge (tgt := 27) hx hb (by omega) (by omega) dX0_firstBehind_6 (by decide) (fun c_1 => ?_) (fun c_1 => ?_)
      · refine lv_iload hx hb dX0_firstBehind_27 (lv_at hl 3 rfl) ?_
        exact W.iret (v := nI k) hx hb hr (fun t9 ht hW => ⟨nI k, rfl, by rw [← hw]; rfl, ht⟩) (fun q hq => nomatch hq) dX0_firstBehind_29
      · exact absurd c_1 (by omega)
    | succ n ih =>
      intro k ls hk hw hl
      refine lv_iload hx hb dX0_firstBehind_3 (lv_at hl 3 rfl) ?_
      refine lv_iload_n hx hb dX0_firstBehind_5 rfl (lv_at hl 1 rfl) ?_
      refine xc_ge (tgt := 27) hx hb (by omega) (by omega) dX0_firstBehind_6 (by decide) (fun c_2 => ?_) (fun c_2 => ?_)
      · exact absurd c_2 (by omega)
      · refine lv_aload_n hx hb dX0_firstBehind_9 rfl (lv_at hl 0 rfl) ?_
        refine va_get (D := (dC, dI)) (ci := 0) (v := .ref a3) (C := RX0) (T := TX0) (N := 12) hx hb hall inX0 hown hK hP 0 rfl rfl 4 (by decide) (hall _ kw_27) (fun _ h9 => h9) rfl dX0_firstBehind_10 ?_
        refine lv_iload hx hb dX0_firstBehind_13 (lv_at hl 3 rfl) ?_
        refine xa_lald hx hb hK hP 3 1 rfl rfl (by omega) (by omega) dX0_firstBehind_15 ?_
        refine lv_lload_n hx hb dX0_firstBehind_16 rfl (lv_at hl 2 rfl) ?_
        refine xl_gt (tgt := 27) hx hb dX0_firstBehind_17 dX0_firstBehind_18 (by decide) (fun c_3 => ?_) (fun c_3 => ?_)
        · have c_L := c_3
          refine lv_iload hx hb dX0_firstBehind_27 (lv_at hl 3 rfl) ?_
          exact W.iret (v := nI k) hx hb hr (fun t9 ht hW => ⟨nI k, rfl, by rw [← hw]; exact (congrArg nI (if_neg (Int64.not_le.mpr c_L))).symm, ht⟩) (fun q hq => nomatch hq) dX0_firstBehind_29
        · have c_L := c_3
          refine lv_iinc (v := nI (k + 1)) (lv' := [(5, .int (nI (k + 1))), (0, .ref x), (2, .int (nI b)), (3, .long t)]) hx hb dX0_firstBehind_21 hl (k := 3) rfl (nI_1 k) (by decide) rfl (fun ls hl => ?_)
          refine lv_goto (tgt := 3) hx hb dX0_firstBehind_24 (by decide) ?_
          exact ih (k + 1) ls (by omega) (by rw [← hw]; exact (if_pos (Int64.not_lt.mp c_L)).symm) (lv_sub hl [1, 2, 3, 0] rfl)
  exact hloop (b - a) a ls (by omega) rfl (lv_sub hl [1, 3, 4, 0] rfl)
set_option maxHeartbeats 4000000 in
set_option maxRecDepth 100000 in
theorem c_startOfSameValues (l : Launch) (dC : Nat → ClassId) (dI : Nat → Nat → Nat) (x a1 a2 a3 a4 a5 a6 a7 : Nat) (cI cJ : ClassId) (nD nR : Nat) (dv : Nat → Int64) (r : Nat → Nat) (cap : Nat) (ti va ev ed : Nat → Int64) (ec : Nat) (ad : Nat → Int32) (ac : Nat) (now : Int64) (a b : Nat) (v0 : Int64) (hab : a ≤ b) (hbc : b ≤ cap) (hcap : cap ≤ 8192) : Met l yX0_startOfSameValues wsX0_startOfSameValues ({ frames := 0, cells := 0, slots := 0, locals := 0 }) (va_Pc [.ref x, .int (nI a), .int (nI b), .long v0] (fun U => va_P (dC, dI) vwCl (wr x a1 a2 a3 a4 a5 a6 a7 cI cJ nD nR dv r cap ti va ev ed ec ad ac now) U.heap ∧ va_K (dC, dI) vwCl [(cI, .int), (cJ, .long)] U)) (vp_Si (fun v => v = nI (wf_ss va v0 a (b - a)))) 0 0 (fun _ => False) := by
  refine Met.ofW (cc := cX0_startOfSameValues) (maxL := 6) (ret := (some .int)) (by decide) rfl ?_
  intro p e s m args below meth c s₁ B hml hv
  obtain ⟨rfl, hP, hK⟩ := hv
  have hx := B.exec
  have hb := B.bytes
  have hr := B.returns
  have hts := atoms_spec (ws := wsX0_startOfSameValues) B.pre
  have hown : s.vm.findClass RX0 = some m.cls := findClass_of_methodNamed B.named
  have hlocks := B.notSynchronized
  have hall := fun (w : Cond) (h : w ∈ allw) => hts w (List.mem_cons_of_mem _ h)
  have hl := lv_entry ([.ref x, .int (nI a), .int (nI b), .long v0]) (n := 6) (Nat.le_of_ble_eq_true rfl)
  rw [lg_entry_eq]
  generalize (lg_sl ([.ref x, .int (nI a), .int (nI b), .long v0]) ++ List.replicate (6 - (lg_sl ([.ref x, .int (nI a), .int (nI b), .long v0])).length) Slot.unset).toArray = ls at hl ⊢
  have hl : lv_has ls 6 [(0, .ref x), (1, .int (nI a)), (2, .int (nI b)), (3, .long v0)] := hl
  refine lv_iload_n hx hb dX0_startOfSameValues_0 rfl (lv_at hl 2 rfl) ?_
  refine lv_istore (lv' := [(5, .int (nI b)), (0, .ref x), (1, .int (nI a)), (2, .int (nI b)), (3, .long v0)]) hx hb dX0_startOfSameValues_1 hl (by decide) rfl (fun ls hl => ?_)
  have hloop : ∀ (n k : Nat) (ls : Array Slot), a + n = k → k ≤ b → wf_ss va v0 a n = wf_ss va v0 a (b - a) → lv_has ls 6 [(0, .ref x), (1, .int (nI a)), (3, .long v0), (5, .int (nI k))] → W p l e (headSpec wsX0_startOfSameValues ({ frames := 0, cells := 0, slots := 0, locals := 0 })).room s m (([.ref x, .int (nI a), .int (nI b), .long v0] : List Value).toArray) below meth c s.heap [] 0 0 (MQ below (vp_Si (fun v => v = nI (wf_ss va v0 a (b - a)))) (([.ref x, .int (nI a), .int (nI b), .long v0] : List Value).toArray) s 0 0 (fun _ => False)) (F0 m 3 ls []) := by
    intro n
    induction n with
    | zero =>
      intro k ls hk hkb hw hl
      refine lv_iload hx hb dX0_startOfSameValues_3 (lv_at hl 3 rfl) ?_
      refine lv_iload_n hx hb dX0_startOfSameValues_5 rfl (lv_at hl 1 rfl) ?_
      refine xc_le (tgt := 29) hx hb (by omega) (by omega) dX0_startOfSameValues_6 (by decide) (fun c_1 => ?_) (fun c_1 => ?_)
      · refine lv_iload hx hb dX0_startOfSameValues_29 (lv_at hl 3 rfl) ?_
        exact W.iret (v := nI k) hx hb hr (fun t9 ht hW => ⟨nI k, rfl, by rw [← hw, ← hk]; rfl, ht⟩) (fun q hq => nomatch hq) dX0_startOfSameValues_31
      · exact absurd c_1 (by omega)
    | succ n ih =>
      intro k ls hk hkb hw hl
      refine lv_iload hx hb dX0_startOfSameValues_3 (lv_at hl 3 rfl) ?_
      refine lv_iload_n hx hb dX0_startOfSameValues_5 rfl (lv_at hl 1 rfl) ?_
      refine xc_le (tgt := 29) hx hb (by omega) (by omega) dX0_startOfSameValues_6 (by decide) (fun c_2 => ?_) (fun c_2 => ?_)
      · exact absurd c_2 (by omega)
      · refine lv_aload_n hx hb dX0_startOfSameValues_9 rfl (lv_at hl 0 rfl) ?_
        refine va_get (D := (dC, dI)) (ci := 0) (v := .ref a4) (C := RX0) (T := TX0) (N := 12) hx hb hall inX0 hown hK hP 0 rfl rfl 5 (by decide) (hall _ kw_28) (fun _ h9 => h9) rfl dX0_startOfSameValues_10 ?_
        refine lv_iload hx hb dX0_startOfSameValues_13 (lv_at hl 3 rfl) ?_
        refine lv_iconst (v := 1) hx hb dX0_startOfSameValues_15 (by decide) ?_
        refine lv_isub hx hb dX0_startOfSameValues_16 ?_
        refine tp_i (y := nI (a + n)) (by rw [← hk]; exact nI_pred (a + n)) ?_
        refine xa_lald hx hb hK hP 4 1 rfl rfl (by omega) (by omega) dX0_startOfSameValues_17 ?_
        refine lv_lload_n hx hb dX0_startOfSameValues_18 rfl (lv_at hl 2 rfl) ?_
        refine xl_ne (tgt := 29) hx hb dX0_startOfSameValues_19 dX0_startOfSameValues_20 (by decide) (fun c_3 => ?_) (fun c_3 => ?_)
        · have c_L := c_3
          refine lv_iload hx hb dX0_startOfSameValues_29 (lv_at hl 3 rfl) ?_
          exact W.iret (v := nI k) hx hb hr (fun t9 ht hW => ⟨nI k, rfl, by rw [← hw, ← hk]; exact (congrArg nI (if_neg c_L)).symm, ht⟩) (fun q hq => nomatch hq) dX0_startOfSameValues_31
        · have c_L := c_3
          refine lv_iinc (v := nI (a + n)) (lv' := [(5, .int (nI (a + n))), (0, .ref x), (1, .int (nI a)), (3, .long v0)]) hx hb dX0_startOfSameValues_23 hl (k := 3) rfl (by rw [← hk, show Int32.ofInt (-1) = (-1 : Int32) from by decide]; exact pk_m1 (a + n)) (by decide) rfl (fun ls hl => ?_)
          refine lv_goto (tgt := 3) hx hb dX0_startOfSameValues_26 (by decide) ?_
          exact ih (a + n) ls rfl (by omega) (by rw [← hw]; exact (if_pos c_L).symm) (lv_sub hl [1, 2, 3, 0] rfl)
  exact hloop (b - a) b ls (by omega) (Nat.le_refl b) rfl (lv_sub hl [1, 2, 4, 0] rfl)
set_option maxHeartbeats 4000000 in
set_option maxRecDepth 100000 in
theorem c_requireDriver (l : Launch) (dC : Nat → ClassId) (dI : Nat → Nat → Nat) (x a1 a2 a3 a4 a5 a6 a7 : Nat) (cI cJ : ClassId) (nD nR : Nat) (dv : Nat → Int64) (r : Nat → Nat) (cap : Nat) (ti va ev ed : Nat → Int64) (ec : Nat) (ad : Nat → Int32) (ac : Nat) (now : Int64) (hI : wf_R nD nR cap ec ac r) (d : Nat) (hd : d < nD) : Met l yX0_requireDriver wsX0_requireDriver ({ frames := 0, cells := 0, slots := 0, locals := 0 }) (va_Pc [.ref x, .int (nI d)] (fun U => va_P (dC, dI) vwCl (wr x a1 a2 a3 a4 a5 a6 a7 cI cJ nD nR dv r cap ti va ev ed ec ad ac now) U.heap ∧ va_K (dC, dI) vwCl [(cI, .int), (cJ, .long)] U)) (xv_S (True)) 0 0 (fun _ => False) := by
  refine Met.ofW (cc := cX0_requireDriver) (maxL := 2) (ret := none) (by decide) rfl ?_
  intro p e s m args below meth c s₁ B hml hv
  obtain ⟨rfl, hP, hK⟩ := hv
  have hx := B.exec
  have hb := B.bytes
  have hr := B.returns
  have hts := atoms_spec (ws := wsX0_requireDriver) B.pre
  have hown : s.vm.findClass RX0 = some m.cls := findClass_of_methodNamed B.named
  have hlocks := B.notSynchronized
  have hall := fun (w : Cond) (h : w ∈ allw) => hts w (List.mem_cons_of_mem _ h)
  have hl := lv_entry ([.ref x, .int (nI d)]) (n := 2) (Nat.le_of_ble_eq_true rfl)
  rw [lg_entry_eq]
  generalize (lg_sl ([.ref x, .int (nI d)]) ++ List.replicate (2 - (lg_sl ([.ref x, .int (nI d)])).length) Slot.unset).toArray = ls at hl ⊢
  have hl : lv_has ls 2 [(0, .ref x), (1, .int (nI d))] := hl
  obtain ⟨hnD1, hnD, hnR1, hnR, hcap, hrc, hrR, hr0, hmo, hec, hac⟩ := hI
  refine lv_iload_n hx hb dX0_requireDriver_0 rfl (lv_at hl 1 rfl) ?_
  refine lv_if_lt (tgt := 12) hx hb dX0_requireDriver_1 (by decide) (fun c_1 => ?_) (fun c_1 => ?_)
  · exact absurd c_1 (nI_pos (by omega))
  · refine lv_iload_n hx hb dX0_requireDriver_4 rfl (lv_at hl 1 rfl) ?_
    refine lv_aload_n hx hb dX0_requireDriver_5 rfl (lv_at hl 0 rfl) ?_
    refine va_get (D := (dC, dI)) (ci := 0) (v := .int (nI nD)) (C := RX0) (T := TX0) (N := 12) hx hb hall inX0 hown hK hP 0 rfl rfl 0 (by decide) (hall _ kw_23) (fun _ h9 => h9) rfl dX0_requireDriver_6 ?_
    refine xc_lt (tgt := 22) hx hb (by omega) (by omega) dX0_requireDriver_9 (by decide) (fun c_2 => ?_) (fun c_2 => ?_)
    · exact W.vret hx hb hr (fun t9 ht hW => ⟨rfl, trivial, ht⟩) (fun q hq => nomatch hq) dX0_requireDriver_22
    · exact absurd c_2 (by omega)
set_option maxHeartbeats 4000000 in
set_option maxRecDepth 100000 in
theorem x_requireDriver (l : Launch) (dC : Nat → ClassId) (dI : Nat → Nat → Nat) (x a1 a2 a3 a4 a5 a6 a7 : Nat) (cI cJ : ClassId) (nD nR : Nat) (dv : Nat → Int64) (r : Nat → Nat) (cap : Nat) (ti va ev ed : Nat → Int64) (ec : Nat) (ad : Nat → Int32) (ac : Nat) (now : Int64) (hst : l.stackTraces = false) (i : Int32) (hbad : i < 0 ∨ nI nD ≤ i) : xt_Met l yX0_requireDriver wsX0_requireDriver ({ frames := 6, cells := 1, slots := 6, locals := 82 }) (va_Pc [.ref x, .int i] (fun U => va_P (dC, dI) vwCl (wr x a1 a2 a3 a4 a5 a6 a7 cI cJ nD nR dv r cap ti va ev ed ec ad ac now) U.heap ∧ va_K (dC, dI) vwCl [(cI, .int), (cJ, .long)] U ∧ xt_ok U)) "java/lang/IndexOutOfBoundsException" := by
  refine xt_ofW (cc := cX0_requireDriver) (maxL := 2) (ret := none) (by decide) rfl ?_
  intro p e s m args below meth c s₁ B hml hout hv
  obtain ⟨rfl, hP, hK, hok⟩ := hv
  have hx := B.exec
  have hb := B.bytes
  have hr := B.returns
  have hts := atoms_spec (ws := wsX0_requireDriver) B.pre
  have hown : s.vm.findClass RX0 = some m.cls := findClass_of_methodNamed B.named
  have hlocks := B.notSynchronized
  have hall := fun (w : Cond) (h : w ∈ allw) => hts w (List.mem_cons_of_mem _ h)
  have hl := lv_entry ([.ref x, .int i]) (n := 2) (Nat.le_of_ble_eq_true rfl)
  rw [lg_entry_eq]
  generalize (lg_sl ([.ref x, .int i]) ++ List.replicate (2 - (lg_sl ([.ref x, .int i])).length) Slot.unset).toArray = ls at hl ⊢
  have hl : lv_has ls 2 [(0, .ref x), (1, .int i)] := hl
  refine lv_iload_n hx hb dX0_requireDriver_0 rfl (lv_at hl 1 rfl) ?_
  refine lv_if_lt (tgt := 12) hx hb dX0_requireDriver_1 (by decide) (fun c_1 => ?_) (fun c_1 => ?_)
  · obtain ⟨sa, hsa⟩ := hok.2 (127, "there is no such driver") (by decide)
    exact xt_throw (own := RX0) (cls := "java/lang/IndexOutOfBoundsException") (text := "there is no such driver") (names := xt_rt) (ik := 120) (is := 127) (ic := 124) hx hb hst hown (by decide) (by decide) (xt_at hok _ (by decide +kernel)) (xt_at hok _ (by decide +kernel)) hsa (fun w hw => xt_at hok w (xt_in3 w hw)) (hl.1.trans hml.symm) dX0_requireDriver_12 dX0_requireDriver_15 dX0_requireDriver_16 dX0_requireDriver_18 dX0_requireDriver_21 hout (by decide) (by decide) (by decide) (by decide) hlocks
  · refine lv_iload_n hx hb dX0_requireDriver_4 rfl (lv_at hl 1 rfl) ?_
    refine lv_aload_n hx hb dX0_requireDriver_5 rfl (lv_at hl 0 rfl) ?_
    refine va_get (D := (dC, dI)) (ci := 0) (v := .int (nI nD)) (C := RX0) (T := TX0) (N := 12) hx hb hall inX0 hown hK hP 0 rfl rfl 0 (by decide) (hall _ kw_23) (fun _ h9 => h9) rfl dX0_requireDriver_6 ?_
    refine lv_icmp_lt (tgt := 22) hx hb dX0_requireDriver_9 (by decide) (fun c_2 => ?_) (fun c_2 => ?_)
    · exact absurd hbad (fun q => q.elim c_1 (fun q => absurd c_2 (Int32.not_lt.mpr q)))
    · obtain ⟨sa, hsa⟩ := hok.2 (127, "there is no such driver") (by decide)
      exact xt_throw (own := RX0) (cls := "java/lang/IndexOutOfBoundsException") (text := "there is no such driver") (names := xt_rt) (ik := 120) (is := 127) (ic := 124) hx hb hst hown (by decide) (by decide) (xt_at hok _ (by decide +kernel)) (xt_at hok _ (by decide +kernel)) hsa (fun w hw => xt_at hok w (xt_in3 w hw)) (hl.1.trans hml.symm) dX0_requireDriver_12 dX0_requireDriver_15 dX0_requireDriver_16 dX0_requireDriver_18 dX0_requireDriver_21 hout (by decide) (by decide) (by decide) (by decide) hlocks
set_option maxHeartbeats 4000000 in
set_option maxRecDepth 100000 in
theorem c_now (l : Launch) (dC : Nat → ClassId) (dI : Nat → Nat → Nat) (x a1 a2 a3 a4 a5 a6 a7 : Nat) (cI cJ : ClassId) (nD nR : Nat) (dv : Nat → Int64) (r : Nat → Nat) (cap : Nat) (ti va ev ed : Nat → Int64) (ec : Nat) (ad : Nat → Int32) (ac : Nat) (now : Int64)  : Met l yX0_now wsX0_now ({ frames := 0, cells := 0, slots := 0, locals := 0 }) (va_Pc [.ref x] (fun U => va_P (dC, dI) vwCl (wr x a1 a2 a3 a4 a5 a6 a7 cI cJ nD nR dv r cap ti va ev ed ec ad ac now) U.heap ∧ va_K (dC, dI) vwCl [(cI, .int), (cJ, .long)] U)) (vp_Sl (fun v => v = now)) 0 0 (fun _ => False) := by
  refine Met.ofW (cc := cX0_now) (maxL := 1) (ret := (some .long)) (by decide) rfl ?_
  intro p e s m args below meth c s₁ B hml hv
  obtain ⟨rfl, hP, hK⟩ := hv
  have hx := B.exec
  have hb := B.bytes
  have hr := B.returns
  have hts := atoms_spec (ws := wsX0_now) B.pre
  have hown : s.vm.findClass RX0 = some m.cls := findClass_of_methodNamed B.named
  have hlocks := B.notSynchronized
  have hall := fun (w : Cond) (h : w ∈ allw) => hts w (List.mem_cons_of_mem _ h)
  have hl := lv_entry ([.ref x]) (n := 1) (Nat.le_of_ble_eq_true rfl)
  rw [lg_entry_eq]
  generalize (lg_sl ([.ref x]) ++ List.replicate (1 - (lg_sl ([.ref x])).length) Slot.unset).toArray = ls at hl ⊢
  have hl : lv_has ls 1 [(0, .ref x)] := hl
  refine lv_aload_n hx hb dX0_now_0 rfl (lv_at hl 0 rfl) ?_
  refine va_get (D := (dC, dI)) (ci := 0) (v := .long now) (C := RX0) (T := TX0) (N := 12) hx hb hall inX0 hown hK hP 0 rfl rfl 11 (by decide) (hall _ kw_34) (fun _ h9 => h9) rfl dX0_now_1 ?_
  exact W.lret (v := now) hx hb hr (fun t9 ht hW => ⟨now, rfl, rfl, ht⟩) (fun q hq => nomatch hq) dX0_now_4
set_option maxHeartbeats 4000000 in
set_option maxRecDepth 100000 in
theorem c_total (l : Launch) (dC : Nat → ClassId) (dI : Nat → Nat → Nat) (x a1 a2 a3 a4 a5 a6 a7 : Nat) (cI cJ : ClassId) (nD nR : Nat) (dv : Nat → Int64) (r : Nat → Nat) (cap : Nat) (ti va ev ed : Nat → Int64) (ec : Nat) (ad : Nat → Int32) (ac : Nat) (now : Int64) (hI : wf_R nD nR cap ec ac r) : Met l yX0_total wsX0_total ({ frames := 0, cells := 0, slots := 0, locals := 0 }) (va_Pc [.ref x] (fun U => va_P (dC, dI) vwCl (wr x a1 a2 a3 a4 a5 a6 a7 cI cJ nD nR dv r cap ti va ev ed ec ad ac now) U.heap ∧ va_K (dC, dI) vwCl [(cI, .int), (cJ, .long)] U)) (vp_Si (fun v => v = nI (r nD))) 0 0 (fun _ => False) := by
  refine Met.ofW (cc := cX0_total) (maxL := 1) (ret := (some .int)) (by decide) rfl ?_
  intro p e s m args below meth c s₁ B hml hv
  obtain ⟨rfl, hP, hK⟩ := hv
  have hx := B.exec
  have hb := B.bytes
  have hr := B.returns
  have hts := atoms_spec (ws := wsX0_total) B.pre
  have hown : s.vm.findClass RX0 = some m.cls := findClass_of_methodNamed B.named
  have hlocks := B.notSynchronized
  have hall := fun (w : Cond) (h : w ∈ allw) => hts w (List.mem_cons_of_mem _ h)
  have hl := lv_entry ([.ref x]) (n := 1) (Nat.le_of_ble_eq_true rfl)
  rw [lg_entry_eq]
  generalize (lg_sl ([.ref x]) ++ List.replicate (1 - (lg_sl ([.ref x])).length) Slot.unset).toArray = ls at hl ⊢
  have hl : lv_has ls 1 [(0, .ref x)] := hl
  obtain ⟨hnD1, hnD, hnR1, hnR, hcap, hrc, hrR, hr0, hmo, hec, hac⟩ := hI
  refine lv_aload_n hx hb dX0_total_0 rfl (lv_at hl 0 rfl) ?_
  refine va_get (D := (dC, dI)) (ci := 0) (v := .ref a2) (C := RX0) (T := TX0) (N := 12) hx hb hall inX0 hown hK hP 0 rfl rfl 3 (by decide) (hall _ kw_26) (fun _ h9 => h9) rfl dX0_total_1 ?_
  refine lv_aload_n hx hb dX0_total_4 rfl (lv_at hl 0 rfl) ?_
  refine va_get (D := (dC, dI)) (ci := 0) (v := .int (nI nD)) (C := RX0) (T := TX0) (N := 12) hx hb hall inX0 hown hK hP 0 rfl rfl 0 (by decide) (hall _ kw_23) (fun _ h9 => h9) rfl dX0_total_5 ?_
  refine xa_iald hx hb hK hP 2 0 rfl rfl (by omega) (by omega) dX0_total_8 ?_
  exact W.iret (v := nI (r nD)) hx hb hr (fun t9 ht hW => ⟨nI (r nD), rfl, rfl, ht⟩) (fun q hq => nomatch hq) dX0_total_9
set_option maxHeartbeats 4000000 in
set_option maxRecDepth 100000 in
theorem c_active (l : Launch) (dC : Nat → ClassId) (dI : Nat → Nat → Nat) (x a1 a2 a3 a4 a5 a6 a7 : Nat) (cI cJ : ClassId) (nD nR : Nat) (dv : Nat → Int64) (r : Nat → Nat) (cap : Nat) (ti va ev ed : Nat → Int64) (ec : Nat) (ad : Nat → Int32) (ac : Nat) (now : Int64) (hI : wf_R nD nR cap ec ac r) (i : Int32) : Met l yX0_active wsX0_active ({ frames := 0, cells := 0, slots := 0, locals := 0 }) (va_Pc [.ref x, .int i] (fun U => va_P (dC, dI) vwCl (wr x a1 a2 a3 a4 a5 a6 a7 cI cJ nD nR dv r cap ti va ev ed ec ad ac now) U.heap ∧ va_K (dC, dI) vwCl [(cI, .int), (cJ, .long)] U)) (vp_Si (fun v => v = wf_act ad ac i)) 0 0 (fun _ => False) := by
  refine Met.ofW (cc := cX0_active) (maxL := 2) (ret := (some .int)) (by decide) rfl ?_
  intro p e s m args below meth c s₁ B hml hv
  obtain ⟨rfl, hP, hK⟩ := hv
  have hx := B.exec
  have hb := B.bytes
  have hr := B.returns
  have hts := atoms_spec (ws := wsX0_active) B.pre
  have hown : s.vm.findClass RX0 = some m.cls := findClass_of_methodNamed B.named
  have hlocks := B.notSynchronized
  have hall := fun (w : Cond) (h : w ∈ allw) => hts w (List.mem_cons_of_mem _ h)
  have hl := lv_entry ([.ref x, .int i]) (n := 2) (Nat.le_of_ble_eq_true rfl)
  rw [lg_entry_eq]
  generalize (lg_sl ([.ref x, .int i]) ++ List.replicate (2 - (lg_sl ([.ref x, .int i])).length) Slot.unset).toArray = ls at hl ⊢
  have hl : lv_has ls 2 [(0, .ref x), (1, .int i)] := hl
  obtain ⟨hnD1, hnD, hnR1, hnR, hcap, hrc, hrR, hr0, hmo, hec, hac⟩ := hI
  refine lv_iload_n hx hb dX0_active_0 rfl (lv_at hl 1 rfl) ?_
  refine lv_if_lt (tgt := 21) hx hb dX0_active_1 (by decide) (fun c_1 => ?_) (fun c_1 => ?_)
  · have c_A := c_1
    refine lv_iconst (v := (-1)) hx hb dX0_active_21 (by decide) ?_
    exact W.iret (v := (-1)) hx hb hr (fun t9 ht hW => ⟨(-1), rfl, by unfold wf_act; exact (if_neg (fun q => by first | exact q.1 c_A | exact q.2 c_B)).symm, ht⟩) (fun q hq => nomatch hq) dX0_active_22
  · have c_A := c_1
    refine lv_iload_n hx hb dX0_active_4 rfl (lv_at hl 1 rfl) ?_
    refine lv_aload_n hx hb dX0_active_5 rfl (lv_at hl 0 rfl) ?_
    refine va_get (D := (dC, dI)) (ci := 0) (v := .int (nI ac)) (C := RX0) (T := TX0) (N := 12) hx hb hall inX0 hown hK hP 0 rfl rfl 10 (by decide) (hall _ kw_33) (fun _ h9 => h9) rfl dX0_active_6 ?_
    refine lv_icmp_ge (tgt := 21) hx hb dX0_active_9 (by decide) (fun c_2 => ?_) (fun c_2 => ?_)
    · have c_B := c_2
      refine lv_iconst (v := (-1)) hx hb dX0_active_21 (by decide) ?_
      exact W.iret (v := (-1)) hx hb hr (fun t9 ht hW => ⟨(-1), rfl, by unfold wf_act; exact (if_neg (fun q => by first | exact q.1 c_A | exact q.2 c_B)).symm, ht⟩) (fun q hq => nomatch hq) dX0_active_22
    · have c_B := c_2
      obtain ⟨j, hj, hij, -, -, -⟩ := pk_mu c_A c_B (by omega)
      refine lv_aload_n hx hb dX0_active_12 rfl (lv_at hl 0 rfl) ?_
      refine va_get (D := (dC, dI)) (ci := 0) (v := .ref a7) (C := RX0) (T := TX0) (N := 12) hx hb hall inX0 hown hK hP 0 rfl rfl 9 (by decide) (hall _ kw_32) (fun _ h9 => h9) rfl dX0_active_13 ?_
      refine lv_iload_n hx hb dX0_active_16 rfl (lv_at hl 1 rfl) ?_
      refine tp_i (y := nI j) hij ?_
      refine xa_iald hx hb hK hP 7 0 rfl rfl (by omega) (by omega) dX0_active_17 ?_
      refine lv_goto (tgt := 22) hx hb dX0_active_18 (by decide) ?_
      exact W.iret (v := ad j) hx hb hr (fun t9 ht hW => ⟨ad j, rfl, by unfold wf_act; rw [if_pos ⟨c_A, c_B⟩, hij, nI_clamp (by omega)], ht⟩) (fun q hq => nomatch hq) dX0_active_22
set_option maxHeartbeats 4000000 in
set_option maxRecDepth 100000 in
theorem c_value (l : Launch) (dC : Nat → ClassId) (dI : Nat → Nat → Nat) (x a1 a2 a3 a4 a5 a6 a7 : Nat) (cI cJ : ClassId) (nD nR : Nat) (dv : Nat → Int64) (r : Nat → Nat) (cap : Nat) (ti va ev ed : Nat → Int64) (ec : Nat) (ad : Nat → Int32) (ac : Nat) (now : Int64) (hI : wf_R nD nR cap ec ac r) (d : Nat) (hd : d < nD) : Met l yX0_value wsX0_value ({ frames := 1, cells := 0, slots := 0, locals := 21 }) (va_Pc [.ref x, .int (nI d)] (fun U => va_P (dC, dI) vwCl (wr x a1 a2 a3 a4 a5 a6 a7 cI cJ nD nR dv r cap ti va ev ed ec ad ac now) U.heap ∧ va_K (dC, dI) vwCl [(cI, .int), (cJ, .long)] U)) (vp_Sl (fun v => v = dv d)) 0 0 (fun _ => False) := by
  refine Met.ofW (cc := cX0_value) (maxL := 2) (ret := (some .long)) (by decide) rfl ?_
  intro p e s m args below meth c s₁ B hml hv
  obtain ⟨rfl, hP, hK⟩ := hv
  have hx := B.exec
  have hb := B.bytes
  have hr := B.returns
  have hts := atoms_spec (ws := wsX0_value) B.pre
  have hown : s.vm.findClass RX0 = some m.cls := findClass_of_methodNamed B.named
  have hlocks := B.notSynchronized
  have hall := fun (w : Cond) (h : w ∈ allw) => hts w (List.mem_cons_of_mem _ h)
  have hl := lv_entry ([.ref x, .int (nI d)]) (n := 2) (Nat.le_of_ble_eq_true rfl)
  rw [lg_entry_eq]
  generalize (lg_sl ([.ref x, .int (nI d)]) ++ List.replicate (2 - (lg_sl ([.ref x, .int (nI d)])).length) Slot.unset).toArray = ls at hl ⊢
  have hl : lv_has ls 2 [(0, .ref x), (1, .int (nI d))] := hl
  have hI0 := hI
  obtain ⟨hnD1, hnD, hnR1, hnR, hcap, hrc, hrR, hr0, hmo, hec, hac⟩ := hI
  refine lv_aload_n hx hb dX0_value_0 rfl (lv_at hl 0 rfl) ?_
  refine lv_iload_n hx hb dX0_value_1 rfl (lv_at hl 1 rfl) ?_
  refine xv_call (W.runV (As := [.int (nI d)]) (rest := []) ⟨hx, hb, hml, hown, hall⟩ (c_requireDriver l dC dI x a1 a2 a3 a4 a5 a6 a7 cI cJ nD nR dv r cap ti va ev ed ec ad ac now hI0 d hd) (cwV 1 hall gX0_62 rfl rfl rfl (by decide +kernel) ⟨Nat.le_of_ble_eq_true rfl, Nat.le_of_ble_eq_true rfl⟩) ⟨xr_blind, va_recv hK hP (ci := 0) (q0 := 0) rfl rfl, fun U hU hW => ⟨rfl, by rw [hU]; exact hP, va_K.moved hW.alike hK⟩⟩ rfl rfl hl.1 rfl (lv_room (Nat.le_of_ble_eq_true rfl)) dX0_value_2 ⟨by first | exact Nat.zero_le _ | omega, by first | exact Nat.zero_le _ | omega⟩) (fun hv_2 => ?_)
  refine lv_aload_n hx hb dX0_value_5 rfl (lv_at hl 0 rfl) ?_
  refine va_get (D := (dC, dI)) (ci := 0) (v := .ref a1) (C := RX0) (T := TX0) (N := 12) hx hb hall inX0 hown hK hP 0 rfl rfl 2 (by decide) (hall _ kw_25) (fun _ h9 => h9) rfl dX0_value_6 ?_
  refine lv_iload_n hx hb dX0_value_9 rfl (lv_at hl 1 rfl) ?_
  refine xa_lald hx hb hK hP 1 1 rfl rfl (by omega) (by omega) dX0_value_10 ?_
  exact W.lret (v := dv d) hx hb hr (fun t9 ht hW => ⟨dv d, rfl, rfl, ht⟩) (fun q hq => nomatch hq) dX0_value_11
set_option maxHeartbeats 4000000 in
set_option maxRecDepth 100000 in
theorem c_count (l : Launch) (dC : Nat → ClassId) (dI : Nat → Nat → Nat) (x a1 a2 a3 a4 a5 a6 a7 : Nat) (cI cJ : ClassId) (nD nR : Nat) (dv : Nat → Int64) (r : Nat → Nat) (cap : Nat) (ti va ev ed : Nat → Int64) (ec : Nat) (ad : Nat → Int32) (ac : Nat) (now : Int64) (hI : wf_R nD nR cap ec ac r) (d : Nat) (hd : d < nD) : Met l yX0_count wsX0_count ({ frames := 1, cells := 0, slots := 0, locals := 21 }) (va_Pc [.ref x, .int (nI d)] (fun U => va_P (dC, dI) vwCl (wr x a1 a2 a3 a4 a5 a6 a7 cI cJ nD nR dv r cap ti va ev ed ec ad ac now) U.heap ∧ va_K (dC, dI) vwCl [(cI, .int), (cJ, .long)] U)) (vp_Si (fun v => v = nI (r (d + 1) - r d))) 0 0 (fun _ => False) := by
  refine Met.ofW (cc := cX0_count) (maxL := 2) (ret := (some .int)) (by decide) rfl ?_
  intro p e s m args below meth c s₁ B hml hv
  obtain ⟨rfl, hP, hK⟩ := hv
  have hx := B.exec
  have hb := B.bytes
  have hr := B.returns
  have hts := atoms_spec (ws := wsX0_count) B.pre
  have hown : s.vm.findClass RX0 = some m.cls := findClass_of_methodNamed B.named
  have hlocks := B.notSynchronized
  have hall := fun (w : Cond) (h : w ∈ allw) => hts w (List.mem_cons_of_mem _ h)
  have hl := lv_entry ([.ref x, .int (nI d)]) (n := 2) (Nat.le_of_ble_eq_true rfl)
  rw [lg_entry_eq]
  generalize (lg_sl ([.ref x, .int (nI d)]) ++ List.replicate (2 - (lg_sl ([.ref x, .int (nI d)])).length) Slot.unset).toArray = ls at hl ⊢
  have hl : lv_has ls 2 [(0, .ref x), (1, .int (nI d))] := hl
  have hI0 := hI
  obtain ⟨hnD1, hnD, hnR1, hnR, hcap, hrc, hrR, hr0, hmo, hec, hac⟩ := hI
  refine lv_aload_n hx hb dX0_count_0 rfl (lv_at hl 0 rfl) ?_
  refine lv_iload_n hx hb dX0_count_1 rfl (lv_at hl 1 rfl) ?_
  refine xv_call (W.runV (As := [.int (nI d)]) (rest := []) ⟨hx, hb, hml, hown, hall⟩ (c_requireDriver l dC dI x a1 a2 a3 a4 a5 a6 a7 cI cJ nD nR dv r cap ti va ev ed ec ad ac now hI0 d hd) (cwV 1 hall gX0_62 rfl rfl rfl (by decide +kernel) ⟨Nat.le_of_ble_eq_true rfl, Nat.le_of_ble_eq_true rfl⟩) ⟨xr_blind, va_recv hK hP (ci := 0) (q0 := 0) rfl rfl, fun U hU hW => ⟨rfl, by rw [hU]; exact hP, va_K.moved hW.alike hK⟩⟩ rfl rfl hl.1 rfl (lv_room (Nat.le_of_ble_eq_true rfl)) dX0_count_2 ⟨by first | exact Nat.zero_le _ | omega, by first | exact Nat.zero_le _ | omega⟩) (fun hv_2 => ?_)
  refine lv_aload_n hx hb dX0_count_5 rfl (lv_at hl 0 rfl) ?_
  refine lv_iload_n hx hb dX0_count_6 rfl (lv_at hl 1 rfl) ?_
  refine vp_callSi (W.runV (As := [.int (nI d)]) (rest := []) ⟨hx, hb, hml, hown, hall⟩ (c_rowLength l dC dI x a1 a2 a3 a4 a5 a6 a7 cI cJ nD nR dv r cap ti va ev ed ec ad ac now hI0 d hd) (cwV 1 hall gX0_106 rfl rfl rfl (by decide +kernel) ⟨Nat.le_of_ble_eq_true rfl, Nat.le_of_ble_eq_true rfl⟩) ⟨xr_blind, va_recv hK hP (ci := 0) (q0 := 0) rfl rfl, fun U hU hW => ⟨rfl, by rw [hU]; exact hP, va_K.moved hW.alike hK⟩⟩ rfl rfl hl.1 rfl (lv_room (Nat.le_of_ble_eq_true rfl)) dX0_count_7 ⟨by first | exact Nat.zero_le _ | omega, by first | exact Nat.zero_le _ | omega⟩) (fun v_3 hv_4 => ?_)
  subst hv_4
  exact W.iret (v := nI (r (d + 1) - r d)) hx hb hr (fun t9 ht hW => ⟨nI (r (d + 1) - r d), rfl, rfl, ht⟩) (fun q hq => nomatch hq) dX0_count_10
set_option maxHeartbeats 4000000 in
set_option maxRecDepth 100000 in
theorem x_value (l : Launch) (dC : Nat → ClassId) (dI : Nat → Nat → Nat) (x a1 a2 a3 a4 a5 a6 a7 : Nat) (cI cJ : ClassId) (nD nR : Nat) (dv : Nat → Int64) (r : Nat → Nat) (cap : Nat) (ti va ev ed : Nat → Int64) (ec : Nat) (ad : Nat → Int32) (ac : Nat) (now : Int64) (hst : l.stackTraces = false) (i : Int32) (hbad : i < 0 ∨ nI nD ≤ i) : xt_Met l yX0_value wsX0_value ({ frames := 7, cells := 1, slots := 6, locals := 103 }) (va_Pc [.ref x, .int i] (fun U => va_P (dC, dI) vwCl (wr x a1 a2 a3 a4 a5 a6 a7 cI cJ nD nR dv r cap ti va ev ed ec ad ac now) U.heap ∧ va_K (dC, dI) vwCl [(cI, .int), (cJ, .long)] U ∧ xt_ok U)) "java/lang/IndexOutOfBoundsException" := by
  refine xt_ofW (cc := cX0_value) (maxL := 2) (ret := (some .long)) (by decide) rfl ?_
  intro p e s m args below meth c s₁ B hml hout hv
  obtain ⟨rfl, hP, hK, hok⟩ := hv
  have hx := B.exec
  have hb := B.bytes
  have hr := B.returns
  have hts := atoms_spec (ws := wsX0_value) B.pre
  have hown : s.vm.findClass RX0 = some m.cls := findClass_of_methodNamed B.named
  have hlocks := B.notSynchronized
  have hall := fun (w : Cond) (h : w ∈ allw) => hts w (List.mem_cons_of_mem _ h)
  have hl := lv_entry ([.ref x, .int i]) (n := 2) (Nat.le_of_ble_eq_true rfl)
  rw [lg_entry_eq]
  generalize (lg_sl ([.ref x, .int i]) ++ List.replicate (2 - (lg_sl ([.ref x, .int i])).length) Slot.unset).toArray = ls at hl ⊢
  have hl : lv_has ls 2 [(0, .ref x), (1, .int i)] := hl
  refine lv_aload_n hx hb dX0_value_0 rfl (lv_at hl 0 rfl) ?_
  refine lv_iload_n hx hb dX0_value_1 rfl (lv_at hl 1 rfl) ?_
  exact xt_callV (As := [.int i]) (rest := []) ⟨hx, hb, hml, hown, hall⟩ (x_requireDriver l dC dI x a1 a2 a3 a4 a5 a6 a7 cI cJ nD nR dv r cap ti va ev ed ec ad ac now hst i hbad) (cwV 1 hall gX0_62 rfl rfl rfl (by decide +kernel) ⟨Nat.le_of_ble_eq_true rfl, Nat.le_of_ble_eq_true rfl⟩) ⟨xk_blind, va_recv hK hP (ci := 0) (q0 := 0) rfl rfl, fun U hU hW => ⟨rfl, by rw [hU]; exact hP, va_K.moved hW.alike hK, xt_move hW (fun q _ => by rw [hU]) hok⟩⟩ rfl hl.1 rfl (lv_room (Nat.le_of_ble_eq_true rfl)) dX0_value_2 ⟨Nat.le_of_ble_eq_true rfl, Nat.le_of_ble_eq_true rfl⟩ (fun q ce H1 h1 h2 h3 _ _ => xt_out hout hlocks h1 h2 h3)
set_option maxHeartbeats 4000000 in
set_option maxRecDepth 100000 in
theorem x_count (l : Launch) (dC : Nat → ClassId) (dI : Nat → Nat → Nat) (x a1 a2 a3 a4 a5 a6 a7 : Nat) (cI cJ : ClassId) (nD nR : Nat) (dv : Nat → Int64) (r : Nat → Nat) (cap : Nat) (ti va ev ed : Nat → Int64) (ec : Nat) (ad : Nat → Int32) (ac : Nat) (now : Int64) (hst : l.stackTraces = false) (i : Int32) (hbad : i < 0 ∨ nI nD ≤ i) : xt_Met l yX0_count wsX0_count ({ frames := 7, cells := 1, slots := 6, locals := 103 }) (va_Pc [.ref x, .int i] (fun U => va_P (dC, dI) vwCl (wr x a1 a2 a3 a4 a5 a6 a7 cI cJ nD nR dv r cap ti va ev ed ec ad ac now) U.heap ∧ va_K (dC, dI) vwCl [(cI, .int), (cJ, .long)] U ∧ xt_ok U)) "java/lang/IndexOutOfBoundsException" := by
  refine xt_ofW (cc := cX0_count) (maxL := 2) (ret := (some .int)) (by decide) rfl ?_
  intro p e s m args below meth c s₁ B hml hout hv
  obtain ⟨rfl, hP, hK, hok⟩ := hv
  have hx := B.exec
  have hb := B.bytes
  have hr := B.returns
  have hts := atoms_spec (ws := wsX0_count) B.pre
  have hown : s.vm.findClass RX0 = some m.cls := findClass_of_methodNamed B.named
  have hlocks := B.notSynchronized
  have hall := fun (w : Cond) (h : w ∈ allw) => hts w (List.mem_cons_of_mem _ h)
  have hl := lv_entry ([.ref x, .int i]) (n := 2) (Nat.le_of_ble_eq_true rfl)
  rw [lg_entry_eq]
  generalize (lg_sl ([.ref x, .int i]) ++ List.replicate (2 - (lg_sl ([.ref x, .int i])).length) Slot.unset).toArray = ls at hl ⊢
  have hl : lv_has ls 2 [(0, .ref x), (1, .int i)] := hl
  refine lv_aload_n hx hb dX0_count_0 rfl (lv_at hl 0 rfl) ?_
  refine lv_iload_n hx hb dX0_count_1 rfl (lv_at hl 1 rfl) ?_
  exact xt_callV (As := [.int i]) (rest := []) ⟨hx, hb, hml, hown, hall⟩ (x_requireDriver l dC dI x a1 a2 a3 a4 a5 a6 a7 cI cJ nD nR dv r cap ti va ev ed ec ad ac now hst i hbad) (cwV 1 hall gX0_62 rfl rfl rfl (by decide +kernel) ⟨Nat.le_of_ble_eq_true rfl, Nat.le_of_ble_eq_true rfl⟩) ⟨xk_blind, va_recv hK hP (ci := 0) (q0 := 0) rfl rfl, fun U hU hW => ⟨rfl, by rw [hU]; exact hP, va_K.moved hW.alike hK, xt_move hW (fun q _ => by rw [hU]) hok⟩⟩ rfl hl.1 rfl (lv_room (Nat.le_of_ble_eq_true rfl)) dX0_count_2 ⟨Nat.le_of_ble_eq_true rfl, Nat.le_of_ble_eq_true rfl⟩ (fun q ce H1 h1 h2 h3 _ _ => xt_out hout hlocks h1 h2 h3)
set_option maxHeartbeats 4000000 in
set_option maxRecDepth 100000 in
theorem x_at (l : Launch) (dC : Nat → ClassId) (dI : Nat → Nat → Nat) (x a1 a2 a3 a4 a5 a6 a7 : Nat) (cI cJ : ClassId) (nD nR : Nat) (dv : Nat → Int64) (r : Nat → Nat) (cap : Nat) (ti va ev ed : Nat → Int64) (ec : Nat) (ad : Nat → Int32) (ac : Nat) (now : Int64) (hst : l.stackTraces = false) (i : Int32) (hbad : i < 0 ∨ nI nD ≤ i) (j z : Int32) : xt_Met l yX0_at wsX0_at ({ frames := 7, cells := 1, slots := 6, locals := 103 }) (va_Pc [.ref x, .int i, .int j, .int z] (fun U => va_P (dC, dI) vwCl (wr x a1 a2 a3 a4 a5 a6 a7 cI cJ nD nR dv r cap ti va ev ed ec ad ac now) U.heap ∧ va_K (dC, dI) vwCl [(cI, .int), (cJ, .long)] U ∧ xt_ok U)) "java/lang/IndexOutOfBoundsException" := by
  refine xt_ofW (cc := cX0_at) (maxL := 5) (ret := (some .long)) (by decide) rfl ?_
  intro p e s m args below meth c s₁ B hml hout hv
  obtain ⟨rfl, hP, hK, hok⟩ := hv
  have hx := B.exec
  have hb := B.bytes
  have hr := B.returns
  have hts := atoms_spec (ws := wsX0_at) B.pre
  have hown : s.vm.findClass RX0 = some m.cls := findClass_of_methodNamed B.named
  have hlocks := B.notSynchronized
  have hall := fun (w : Cond) (h : w ∈ allw) => hts w (List.mem_cons_of_mem _ h)
  have hl := lv_entry ([.ref x, .int i, .int j, .int z]) (n := 5) (Nat.le_of_ble_eq_true rfl)
  rw [lg_entry_eq]
  generalize (lg_sl ([.ref x, .int i, .int j, .int z]) ++ List.replicate (5 - (lg_sl ([.ref x, .int i, .int j, .int z])).length) Slot.unset).toArray = ls at hl ⊢
  have hl : lv_has ls 5 [(0, .ref x), (1, .int i), (2, .int j), (3, .int z)] := hl
  refine lv_aload_n hx hb dX0_at_0 rfl (lv_at hl 0 rfl) ?_
  refine lv_iload_n hx hb dX0_at_1 rfl (lv_at hl 1 rfl) ?_
  exact xt_callV (As := [.int i]) (rest := []) ⟨hx, hb, hml, hown, hall⟩ (x_requireDriver l dC dI x a1 a2 a3 a4 a5 a6 a7 cI cJ nD nR dv r cap ti va ev ed ec ad ac now hst i hbad) (cwV 1 hall gX0_62 rfl rfl rfl (by decide +kernel) ⟨Nat.le_of_ble_eq_true rfl, Nat.le_of_ble_eq_true rfl⟩) ⟨xk_blind, va_recv hK hP (ci := 0) (q0 := 0) rfl rfl, fun U hU hW => ⟨rfl, by rw [hU]; exact hP, va_K.moved hW.alike hK, xt_move hW (fun q _ => by rw [hU]) hok⟩⟩ rfl hl.1 rfl (lv_room (Nat.le_of_ble_eq_true rfl)) dX0_at_2 ⟨Nat.le_of_ble_eq_true rfl, Nat.le_of_ble_eq_true rfl⟩ (fun q ce H1 h1 h2 h3 _ _ => xt_out hout hlocks h1 h2 h3)
set_option maxHeartbeats 4000000 in
set_option maxRecDepth 100000 in
theorem x_projected (l : Launch) (dC : Nat → ClassId) (dI : Nat → Nat → Nat) (x a1 a2 a3 a4 a5 a6 a7 : Nat) (cI cJ : ClassId) (nD nR : Nat) (dv : Nat → Int64) (r : Nat → Nat) (cap : Nat) (ti va ev ed : Nat → Int64) (ec : Nat) (ad : Nat → Int32) (ac : Nat) (now : Int64) (hst : l.stackTraces = false) (i : Int32) (hbad : i < 0 ∨ nI nD ≤ i) (t : Int64) : xt_Met l yX0_projected wsX0_projected ({ frames := 7, cells := 1, slots := 6, locals := 103 }) (va_Pc [.ref x, .int i, .long t] (fun U => va_P (dC, dI) vwCl (wr x a1 a2 a3 a4 a5 a6 a7 cI cJ nD nR dv r cap ti va ev ed ec ad ac now) U.heap ∧ va_K (dC, dI) vwCl [(cI, .int), (cJ, .long)] U ∧ xt_ok U)) "java/lang/IndexOutOfBoundsException" := by
  refine xt_ofW (cc := cX0_projected) (maxL := 6) (ret := (some .long)) (by decide) rfl ?_
  intro p e s m args below meth c s₁ B hml hout hv
  obtain ⟨rfl, hP, hK, hok⟩ := hv
  have hx := B.exec
  have hb := B.bytes
  have hr := B.returns
  have hts := atoms_spec (ws := wsX0_projected) B.pre
  have hown : s.vm.findClass RX0 = some m.cls := findClass_of_methodNamed B.named
  have hlocks := B.notSynchronized
  have hall := fun (w : Cond) (h : w ∈ allw) => hts w (List.mem_cons_of_mem _ h)
  have hl := lv_entry ([.ref x, .int i, .long t]) (n := 6) (Nat.le_of_ble_eq_true rfl)
  rw [lg_entry_eq]
  generalize (lg_sl ([.ref x, .int i, .long t]) ++ List.replicate (6 - (lg_sl ([.ref x, .int i, .long t])).length) Slot.unset).toArray = ls at hl ⊢
  have hl : lv_has ls 6 [(0, .ref x), (1, .int i), (2, .long t)] := hl
  refine lv_aload_n hx hb dX0_projected_0 rfl (lv_at hl 0 rfl) ?_
  refine lv_iload_n hx hb dX0_projected_1 rfl (lv_at hl 1 rfl) ?_
  exact xt_callV (As := [.int i]) (rest := []) ⟨hx, hb, hml, hown, hall⟩ (x_requireDriver l dC dI x a1 a2 a3 a4 a5 a6 a7 cI cJ nD nR dv r cap ti va ev ed ec ad ac now hst i hbad) (cwV 1 hall gX0_62 rfl rfl rfl (by decide +kernel) ⟨Nat.le_of_ble_eq_true rfl, Nat.le_of_ble_eq_true rfl⟩) ⟨xk_blind, va_recv hK hP (ci := 0) (q0 := 0) rfl rfl, fun U hU hW => ⟨rfl, by rw [hU]; exact hP, va_K.moved hW.alike hK, xt_move hW (fun q _ => by rw [hU]) hok⟩⟩ rfl hl.1 rfl (lv_room (Nat.le_of_ble_eq_true rfl)) dX0_projected_2 ⟨Nat.le_of_ble_eq_true rfl, Nat.le_of_ble_eq_true rfl⟩ (fun q ce H1 h1 h2 h3 _ _ => xt_out hout hlocks h1 h2 h3)
set_option maxHeartbeats 4000000 in
set_option maxRecDepth 100000 in
theorem x_start (l : Launch) (dC : Nat → ClassId) (dI : Nat → Nat → Nat) (x a1 a2 a3 a4 a5 a6 a7 : Nat) (cI cJ : ClassId) (nD nR : Nat) (dv : Nat → Int64) (r : Nat → Nat) (cap : Nat) (ti va ev ed : Nat → Int64) (ec : Nat) (ad : Nat → Int32) (ac : Nat) (now : Int64) (hst : l.stackTraces = false) (i : Int32) (hbad : i < 0 ∨ nI nD ≤ i) (t : Int64) : xt_Met l yX0_start wsX0_start ({ frames := 7, cells := 1, slots := 6, locals := 103 }) (va_Pc [.ref x, .int i, .long t] (fun U => va_P (dC, dI) vwCl (wr x a1 a2 a3 a4 a5 a6 a7 cI cJ nD nR dv r cap ti va ev ed ec ad ac now) U.heap ∧ va_K (dC, dI) vwCl [(cI, .int), (cJ, .long)] U ∧ xt_ok U)) "java/lang/IndexOutOfBoundsException" := by
  refine xt_ofW (cc := cX0_start) (maxL := 5) (ret := (some .int)) (by decide) rfl ?_
  intro p e s m args below meth c s₁ B hml hout hv
  obtain ⟨rfl, hP, hK, hok⟩ := hv
  have hx := B.exec
  have hb := B.bytes
  have hr := B.returns
  have hts := atoms_spec (ws := wsX0_start) B.pre
  have hown : s.vm.findClass RX0 = some m.cls := findClass_of_methodNamed B.named
  have hlocks := B.notSynchronized
  have hall := fun (w : Cond) (h : w ∈ allw) => hts w (List.mem_cons_of_mem _ h)
  have hl := lv_entry ([.ref x, .int i, .long t]) (n := 5) (Nat.le_of_ble_eq_true rfl)
  rw [lg_entry_eq]
  generalize (lg_sl ([.ref x, .int i, .long t]) ++ List.replicate (5 - (lg_sl ([.ref x, .int i, .long t])).length) Slot.unset).toArray = ls at hl ⊢
  have hl : lv_has ls 5 [(0, .ref x), (1, .int i), (2, .long t)] := hl
  refine lv_aload_n hx hb dX0_start_0 rfl (lv_at hl 0 rfl) ?_
  refine lv_iload_n hx hb dX0_start_1 rfl (lv_at hl 1 rfl) ?_
  exact xt_callV (As := [.int i]) (rest := []) ⟨hx, hb, hml, hown, hall⟩ (x_requireDriver l dC dI x a1 a2 a3 a4 a5 a6 a7 cI cJ nD nR dv r cap ti va ev ed ec ad ac now hst i hbad) (cwV 1 hall gX0_62 rfl rfl rfl (by decide +kernel) ⟨Nat.le_of_ble_eq_true rfl, Nat.le_of_ble_eq_true rfl⟩) ⟨xk_blind, va_recv hK hP (ci := 0) (q0 := 0) rfl rfl, fun U hU hW => ⟨rfl, by rw [hU]; exact hP, va_K.moved hW.alike hK, xt_move hW (fun q _ => by rw [hU]) hok⟩⟩ rfl hl.1 rfl (lv_room (Nat.le_of_ble_eq_true rfl)) dX0_start_2 ⟨Nat.le_of_ble_eq_true rfl, Nat.le_of_ble_eq_true rfl⟩ (fun q ce H1 h1 h2 h3 _ _ => xt_out hout hlocks h1 h2 h3)
set_option maxHeartbeats 4000000 in
set_option maxRecDepth 100000 in
theorem x_assign (l : Launch) (dC : Nat → ClassId) (dI : Nat → Nat → Nat) (x a1 a2 a3 a4 a5 a6 a7 : Nat) (cI cJ : ClassId) (nD nR : Nat) (dv : Nat → Int64) (r : Nat → Nat) (cap : Nat) (ti va ev ed : Nat → Int64) (ec : Nat) (ad : Nat → Int32) (ac : Nat) (now : Int64) (hst : l.stackTraces = false) (i : Int32) (hbad : i < 0 ∨ nI nD ≤ i) (mo : Int32) (t : Int64) : xt_Met l yX0_assign wsX0_assign ({ frames := 7, cells := 1, slots := 6, locals := 103 }) (va_Pc [.ref x, .int i, .int mo, .long t] (fun U => va_P (dC, dI) vwCl (wr x a1 a2 a3 a4 a5 a6 a7 cI cJ nD nR dv r cap ti va ev ed ec ad ac now) U.heap ∧ va_K (dC, dI) vwCl [(cI, .int), (cJ, .long)] U ∧ xt_ok U)) "java/lang/IndexOutOfBoundsException" := by
  refine xt_ofW (cc := cX0_assign) (maxL := 14) (ret := (some .int)) (by decide) rfl ?_
  intro p e s m args below meth c s₁ B hml hout hv
  obtain ⟨rfl, hP, hK, hok⟩ := hv
  have hx := B.exec
  have hb := B.bytes
  have hr := B.returns
  have hts := atoms_spec (ws := wsX0_assign) B.pre
  have hown : s.vm.findClass RX0 = some m.cls := findClass_of_methodNamed B.named
  have hlocks := B.notSynchronized
  have hall := fun (w : Cond) (h : w ∈ allw) => hts w (List.mem_cons_of_mem _ h)
  have hl := lv_entry ([.ref x, .int i, .int mo, .long t]) (n := 14) (Nat.le_of_ble_eq_true rfl)
  rw [lg_entry_eq]
  generalize (lg_sl ([.ref x, .int i, .int mo, .long t]) ++ List.replicate (14 - (lg_sl ([.ref x, .int i, .int mo, .long t])).length) Slot.unset).toArray = ls at hl ⊢
  have hl : lv_has ls 14 [(0, .ref x), (1, .int i), (2, .int mo), (3, .long t)] := hl
  refine lv_aload_n hx hb dX0_assign_0 rfl (lv_at hl 0 rfl) ?_
  refine lv_iload_n hx hb dX0_assign_1 rfl (lv_at hl 1 rfl) ?_
  exact xt_callV (As := [.int i]) (rest := []) ⟨hx, hb, hml, hown, hall⟩ (x_requireDriver l dC dI x a1 a2 a3 a4 a5 a6 a7 cI cJ nD nR dv r cap ti va ev ed ec ad ac now hst i hbad) (cwV 1 hall gX0_62 rfl rfl rfl (by decide +kernel) ⟨Nat.le_of_ble_eq_true rfl, Nat.le_of_ble_eq_true rfl⟩) ⟨xk_blind, va_recv hK hP (ci := 0) (q0 := 0) rfl rfl, fun U hU hW => ⟨rfl, by rw [hU]; exact hP, va_K.moved hW.alike hK, xt_move hW (fun q _ => by rw [hU]) hok⟩⟩ rfl hl.1 rfl (lv_room (Nat.le_of_ble_eq_true rfl)) dX0_assign_2 ⟨Nat.le_of_ble_eq_true rfl, Nat.le_of_ble_eq_true rfl⟩ (fun q ce H1 h1 h2 h3 _ _ => xt_out hout hlocks h1 h2 h3)
set_option maxHeartbeats 4000000 in
set_option maxRecDepth 100000 in
theorem c_limitOf (l : Launch) (dC : Nat → ClassId) (dI : Nat → Nat → Nat) (x a1 a2 a3 a4 a5 a6 a7 : Nat) (cI cJ : ClassId) (nD nR : Nat) (dv : Nat → Int64) (r : Nat → Nat) (cap : Nat) (ti va ev ed : Nat → Int64) (ec : Nat) (ad : Nat → Int32) (ac : Nat) (now : Int64) (mo : Int32) (t : Int64) (hm : mo = 0 ∨ mo = 1 ∨ mo = 2) : Met l yX0_limitOf wsX0_limitOf ({ frames := 0, cells := 0, slots := 0, locals := 0 }) (va_Pc [.ref x, .int mo, .long t] (fun U => va_P (dC, dI) vwCl (wr x a1 a2 a3 a4 a5 a6 a7 cI cJ nD nR dv r cap ti va ev ed ec ad ac now) U.heap ∧ va_K (dC, dI) vwCl [(cI, .int), (cJ, .long)] U)) (vp_Sl (fun v => v = wf_lim mo (ed 0) t)) 0 0 (fun _ => False) := by
  refine Met.ofW (cc := cX0_limitOf) (maxL := 4) (ret := (some .long)) (by decide) rfl ?_
  intro p e s m args below meth c s₁ B hml hv
  obtain ⟨rfl, hP, hK⟩ := hv
  have hx := B.exec
  have hb := B.bytes
  have hr := B.returns
  have hts := atoms_spec (ws := wsX0_limitOf) B.pre
  have hown : s.vm.findClass RX0 = some m.cls := findClass_of_methodNamed B.named
  have hlocks := B.notSynchronized
  have hall := fun (w : Cond) (h : w ∈ allw) => hts w (List.mem_cons_of_mem _ h)
  have hl := lv_entry ([.ref x, .int mo, .long t]) (n := 4) (Nat.le_of_ble_eq_true rfl)
  rw [lg_entry_eq]
  generalize (lg_sl ([.ref x, .int mo, .long t]) ++ List.replicate (4 - (lg_sl ([.ref x, .int mo, .long t])).length) Slot.unset).toArray = ls at hl ⊢
  have hl : lv_has ls 4 [(0, .ref x), (1, .int mo), (2, .long t)] := hl
  rcases hm with rfl | rfl | rfl
  · refine lv_iload_n hx hb dX0_limitOf_0 rfl (lv_at hl 1 rfl) ?_
    refine lv_lookup (off := 27) (tgt := 28) hx hb dX0_limitOf_1 (by decide) (by decide) (by decide) ?_
    refine lv_aload_n hx hb dX0_limitOf_28 rfl (lv_at hl 0 rfl) ?_
    refine va_get (D := (dC, dI)) (ci := 0) (v := .ref a6) (C := RX0) (T := TX0) (N := 12) hx hb hall inX0 hown hK hP 0 rfl rfl 7 (by decide) (hall _ kw_30) (fun _ h9 => h9) rfl dX0_limitOf_29 ?_
    refine lv_iconst (v := 0) hx hb dX0_limitOf_32 (by decide) ?_
    refine tp_i (y := nI 0) nI_0.symm ?_
    refine xa_lald hx hb hK hP 6 1 rfl rfl (by omega) (by omega) dX0_limitOf_33 ?_
    exact W.lret (v := ed 0) hx hb hr (fun t9 ht hW => ⟨ed 0, rfl, rfl, ht⟩) (fun q hq => nomatch hq) dX0_limitOf_34
  · refine lv_iload_n hx hb dX0_limitOf_0 rfl (lv_at hl 1 rfl) ?_
    refine lv_lookup (off := 36) (tgt := 37) hx hb dX0_limitOf_1 (by decide) (by decide) (by decide) ?_
    refine lv_lconst (v := 0) hx hb dX0_limitOf_37 (by decide) ?_
    exact W.lret (v := 0) hx hb hr (fun t9 ht hW => ⟨0, rfl, rfl, ht⟩) (fun q hq => nomatch hq) dX0_limitOf_38
  · refine lv_iload_n hx hb dX0_limitOf_0 rfl (lv_at hl 1 rfl) ?_
    refine lv_lookup (off := 34) (tgt := 35) hx hb dX0_limitOf_1 (by decide) (by decide) (by decide) ?_
    refine lv_lload_n hx hb dX0_limitOf_35 rfl (lv_at hl 2 rfl) ?_
    exact W.lret (v := t) hx hb hr (fun t9 ht hW => ⟨t, rfl, rfl, ht⟩) (fun q hq => nomatch hq) dX0_limitOf_36
set_option maxHeartbeats 4000000 in
set_option maxRecDepth 100000 in
theorem c_isLimitGood (l : Launch) (dC : Nat → ClassId) (dI : Nat → Nat → Nat) (x a1 a2 a3 a4 a5 a6 a7 : Nat) (cI cJ : ClassId) (nD nR : Nat) (dv : Nat → Int64) (r : Nat → Nat) (cap : Nat) (ti va ev ed : Nat → Int64) (ec : Nat) (ad : Nat → Int32) (ac : Nat) (now : Int64) (mo : Int32) (t : Int64) : Met l yX0_isLimitGood wsX0_isLimitGood ({ frames := 0, cells := 0, slots := 0, locals := 0 }) (va_Pc [.ref x, .int mo, .long t] (fun U => va_P (dC, dI) vwCl (wr x a1 a2 a3 a4 a5 a6 a7 cI cJ nD nR dv r cap ti va ev ed ec ad ac now) U.heap ∧ va_K (dC, dI) vwCl [(cI, .int), (cJ, .long)] U)) (vp_Si (fun v => v = 1 ∧ wf_lg mo (ed 0) t ∨ v = 0 ∧ ¬ wf_lg mo (ed 0) t)) 0 0 (fun _ => False) := by
  refine Met.ofW (cc := cX0_isLimitGood) (maxL := 4) (ret := (some .boolean)) (by decide) rfl ?_
  intro p e s m args below meth c s₁ B hml hv
  obtain ⟨rfl, hP, hK⟩ := hv
  have hx := B.exec
  have hb := B.bytes
  have hr := B.returns
  have hts := atoms_spec (ws := wsX0_isLimitGood) B.pre
  have hown : s.vm.findClass RX0 = some m.cls := findClass_of_methodNamed B.named
  have hlocks := B.notSynchronized
  have hall := fun (w : Cond) (h : w ∈ allw) => hts w (List.mem_cons_of_mem _ h)
  have hl := lv_entry ([.ref x, .int mo, .long t]) (n := 4) (Nat.le_of_ble_eq_true rfl)
  rw [lg_entry_eq]
  generalize (lg_sl ([.ref x, .int mo, .long t]) ++ List.replicate (4 - (lg_sl ([.ref x, .int mo, .long t])).length) Slot.unset).toArray = ls at hl ⊢
  have hl : lv_has ls 4 [(0, .ref x), (1, .int mo), (2, .long t)] := hl
  refine lv_iload_n hx hb dX0_isLimitGood_0 rfl (lv_at hl 1 rfl) ?_
  refine lv_iconst (v := 2) hx hb dX0_isLimitGood_1 (by decide) ?_
  refine lv_icmp_ne (tgt := 28) hx hb dX0_isLimitGood_2 (by decide) (fun c_1 => ?_) (fun c_1 => ?_)
  · have c_A := c_1
    refine lv_iload_n hx hb dX0_isLimitGood_28 rfl (lv_at hl 1 rfl) ?_
    refine lv_if_eq (tgt := 37) hx hb dX0_isLimitGood_29 (by decide) (fun c_2 => ?_) (fun c_2 => ?_)
    · have c_D := c_2
      refine lv_iconst (v := 1) hx hb dX0_isLimitGood_37 (by decide) ?_
      refine lv_goto (tgt := 42) hx hb dX0_isLimitGood_38 (by decide) ?_
      exact W.zret (v := 1) (ty := .boolean) hx hb hr narrow_b1 (fun t9 ht hW => ⟨1, rfl, Or.inl ⟨rfl, by unfold wf_lg; first | exact Or.inl ⟨c_A, c_B, c_C⟩ | exact Or.inr (Or.inl c_D) | exact Or.inr (Or.inr c_E)⟩, ht⟩) (fun q hq => nomatch hq) dX0_isLimitGood_42
    · have c_D := c_2
      refine lv_iload_n hx hb dX0_isLimitGood_32 rfl (lv_at hl 1 rfl) ?_
      refine lv_iconst (v := 1) hx hb dX0_isLimitGood_33 (by decide) ?_
      refine lv_icmp_ne (tgt := 41) hx hb dX0_isLimitGood_34 (by decide) (fun c_3 => ?_) (fun c_3 => ?_)
      · have c_E := c_3
        refine lv_iconst (v := 0) hx hb dX0_isLimitGood_41 (by decide) ?_
        exact W.zret (v := 0) (ty := .boolean) hx hb hr narrow_b0 (fun t9 ht hW => ⟨0, rfl, Or.inr ⟨rfl, fun q => by unfold wf_lg at q; first | exact q.elim (fun q => q.2.1 c_B) (fun q => q.elim (fun q => absurd (c_A.symm.trans q) (by decide)) (fun q => absurd (c_A.symm.trans q) (by decide))) | exact q.elim (fun q => q.2.2 c_C) (fun q => q.elim (fun q => absurd (c_A.symm.trans q) (by decide)) (fun q => absurd (c_A.symm.trans q) (by decide))) | exact q.elim (fun q => c_A q.1) (fun q => q.elim c_D c_E)⟩, ht⟩) (fun q hq => nomatch hq) dX0_isLimitGood_42
      · have c_E := c_3
        refine lv_iconst (v := 1) hx hb dX0_isLimitGood_37 (by decide) ?_
        refine lv_goto (tgt := 42) hx hb dX0_isLimitGood_38 (by decide) ?_
        exact W.zret (v := 1) (ty := .boolean) hx hb hr narrow_b1 (fun t9 ht hW => ⟨1, rfl, Or.inl ⟨rfl, by unfold wf_lg; first | exact Or.inl ⟨c_A, c_B, c_C⟩ | exact Or.inr (Or.inl c_D) | exact Or.inr (Or.inr c_E)⟩, ht⟩) (fun q hq => nomatch hq) dX0_isLimitGood_42
  · have c_A := c_1
    refine lv_lload_n hx hb dX0_isLimitGood_5 rfl (lv_at hl 2 rfl) ?_
    refine lv_lconst (v := 0) hx hb dX0_isLimitGood_6 (by decide) ?_
    refine xl_lt (tgt := 26) hx hb dX0_isLimitGood_7 dX0_isLimitGood_8 (by decide) (fun c_4 => ?_) (fun c_4 => ?_)
    · have c_B := c_4
      refine lv_iconst (v := 0) hx hb dX0_isLimitGood_26 (by decide) ?_
      exact W.zret (v := 0) (ty := .boolean) hx hb hr narrow_b0 (fun t9 ht hW => ⟨0, rfl, Or.inr ⟨rfl, fun q => by unfold wf_lg at q; first | exact q.elim (fun q => q.2.1 c_B) (fun q => q.elim (fun q => absurd (c_A.symm.trans q) (by decide)) (fun q => absurd (c_A.symm.trans q) (by decide))) | exact q.elim (fun q => q.2.2 c_C) (fun q => q.elim (fun q => absurd (c_A.symm.trans q) (by decide)) (fun q => absurd (c_A.symm.trans q) (by decide))) | exact q.elim (fun q => c_A q.1) (fun q => q.elim c_D c_E)⟩, ht⟩) (fun q hq => nomatch hq) dX0_isLimitGood_27
    · have c_B := c_4
      refine lv_lload_n hx hb dX0_isLimitGood_11 rfl (lv_at hl 2 rfl) ?_
      refine lv_aload_n hx hb dX0_isLimitGood_12 rfl (lv_at hl 0 rfl) ?_
      refine va_get (D := (dC, dI)) (ci := 0) (v := .ref a6) (C := RX0) (T := TX0) (N := 12) hx hb hall inX0 hown hK hP 0 rfl rfl 7 (by decide) (hall _ kw_30) (fun _ h9 => h9) rfl dX0_isLimitGood_13 ?_
      refine lv_iconst (v := 0) hx hb dX0_isLimitGood_16 (by decide) ?_
      refine tp_i (y := nI 0) nI_0.symm ?_
      refine xa_lald hx hb hK hP 6 1 rfl rfl (by omega) (by omega) dX0_isLimitGood_17 ?_
      refine xl_gt (tgt := 26) hx hb dX0_isLimitGood_18 dX0_isLimitGood_19 (by decide) (fun c_5 => ?_) (fun c_5 => ?_)
      · have c_C := c_5
        refine lv_iconst (v := 0) hx hb dX0_isLimitGood_26 (by decide) ?_
        exact W.zret (v := 0) (ty := .boolean) hx hb hr narrow_b0 (fun t9 ht hW => ⟨0, rfl, Or.inr ⟨rfl, fun q => by unfold wf_lg at q; first | exact q.elim (fun q => q.2.1 c_B) (fun q => q.elim (fun q => absurd (c_A.symm.trans q) (by decide)) (fun q => absurd (c_A.symm.trans q) (by decide))) | exact q.elim (fun q => q.2.2 c_C) (fun q => q.elim (fun q => absurd (c_A.symm.trans q) (by decide)) (fun q => absurd (c_A.symm.trans q) (by decide))) | exact q.elim (fun q => c_A q.1) (fun q => q.elim c_D c_E)⟩, ht⟩) (fun q hq => nomatch hq) dX0_isLimitGood_27
      · have c_C := c_5
        refine lv_iconst (v := 1) hx hb dX0_isLimitGood_22 (by decide) ?_
        refine lv_goto (tgt := 27) hx hb dX0_isLimitGood_23 (by decide) ?_
        exact W.zret (v := 1) (ty := .boolean) hx hb hr narrow_b1 (fun t9 ht hW => ⟨1, rfl, Or.inl ⟨rfl, by unfold wf_lg; first | exact Or.inl ⟨c_A, c_B, c_C⟩ | exact Or.inr (Or.inl c_D) | exact Or.inr (Or.inr c_E)⟩, ht⟩) (fun q hq => nomatch hq) dX0_isLimitGood_27
set_option maxHeartbeats 4000000 in
set_option maxRecDepth 100000 in
theorem c_areDelaysGood (l : Launch) (dC : Nat → ClassId) (dI : Nat → Nat → Nat) (x a1 a2 a3 a4 a5 a6 a7 : Nat) (cI cJ : ClassId) (nD nR : Nat) (dv : Nat → Int64) (r : Nat → Nat) (cap : Nat) (ti va ev ed : Nat → Int64) (ec : Nat) (ad : Nat → Int32) (ac : Nat) (now : Int64) (hI : wf_R nD nR cap ec ac r) : Met l yX0_areDelaysGood wsX0_areDelaysGood ({ frames := 0, cells := 0, slots := 0, locals := 0 }) (va_Pc [.ref x] (fun U => va_P (dC, dI) vwCl (wr x a1 a2 a3 a4 a5 a6 a7 cI cJ nD nR dv r cap ti va ev ed ec ad ac now) U.heap ∧ va_K (dC, dI) vwCl [(cI, .int), (cJ, .long)] U)) (vp_Si (fun v => v = 1 ∧ wf_dg ed now ec 0 (-1) ∨ v = 0 ∧ ¬ wf_dg ed now ec 0 (-1))) 0 0 (fun _ => False) := by
  refine Met.ofW (cc := cX0_areDelaysGood) (maxL := 4) (ret := (some .boolean)) (by decide) rfl ?_
  intro p e s m args below meth c s₁ B hml hv
  obtain ⟨rfl, hP, hK⟩ := hv
  have hx := B.exec
  have hb := B.bytes
  have hr := B.returns
  have hts := atoms_spec (ws := wsX0_areDelaysGood) B.pre
  have hown : s.vm.findClass RX0 = some m.cls := findClass_of_methodNamed B.named
  have hlocks := B.notSynchronized
  have hall := fun (w : Cond) (h : w ∈ allw) => hts w (List.mem_cons_of_mem _ h)
  have hl := lv_entry ([.ref x]) (n := 4) (Nat.le_of_ble_eq_true rfl)
  rw [lg_entry_eq]
  generalize (lg_sl ([.ref x]) ++ List.replicate (4 - (lg_sl ([.ref x])).length) Slot.unset).toArray = ls at hl ⊢
  have hl : lv_has ls 4 [(0, .ref x)] := hl
  obtain ⟨hnD1, hnD, hnR1, hnR, hcap, hrc, hrR, hr0, hmo, hec, hac⟩ := hI
  refine lv_ldc2 (v := (-1)) hx hb hown (hall _ kw_78) dX0_areDelaysGood_0 ?_
  refine lv_lstore_n (lv' := [(1, .long (-1)), (0, .ref x)]) hx hb dX0_areDelaysGood_3 rfl hl (by decide) rfl (fun ls hl => ?_)
  refine lv_iconst (v := 0) hx hb dX0_areDelaysGood_4 (by decide) ?_
  refine tp_i (y := nI 0) nI_0.symm ?_
  refine lv_istore_n (lv' := [(3, .int (nI 0)), (1, .long (-1)), (0, .ref x)]) hx hb dX0_areDelaysGood_5 rfl hl (by decide) rfl (fun ls hl => ?_)
  have hloop : ∀ (n k : Nat) (b : Int64) (ls : Array Slot), k + n = ec → (wf_dg ed now n k b ↔ wf_dg ed now ec 0 (-1)) → lv_has ls 4 [(0, .ref x), (1, .long b), (3, .int (nI k))] → W p l e (headSpec wsX0_areDelaysGood ({ frames := 0, cells := 0, slots := 0, locals := 0 })).room s m (([.ref x] : List Value).toArray) below meth c s.heap [] 0 0 (MQ below (vp_Si (fun v => v = 1 ∧ wf_dg ed now ec 0 (-1) ∨ v = 0 ∧ ¬ wf_dg ed now ec 0 (-1))) (([.ref x] : List Value).toArray) s 0 0 (fun _ => False)) (F0 m 6 ls []) := by
    intro n
    induction n with
    | zero =>
      intro k b ls hk hw hl
      refine lv_iload_n hx hb dX0_areDelaysGood_6 rfl (lv_at hl 2 rfl) ?_
      refine lv_aload_n hx hb dX0_areDelaysGood_7 rfl (lv_at hl 0 rfl) ?_
      refine va_get (D := (dC, dI)) (ci := 0) (v := .int (nI ec)) (C := RX0) (T := TX0) (N := 12) hx hb hall inX0 hown hK hP 0 rfl rfl 8 (by decide) (hall _ kw_31) (fun _ h9 => h9) rfl dX0_areDelaysGood_8 ?_
      refine xc_ge (tgt := 58) hx hb (by omega) (by omega) dX0_areDelaysGood_11 (by decide) (fun c_1 => ?_) (fun c_1 => ?_)
      · refine lv_iconst (v := 1) hx hb dX0_areDelaysGood_58 (by decide) ?_
        exact W.zret (v := 1) (ty := .boolean) hx hb hr narrow_b1 (fun t9 ht hW => ⟨1, rfl, Or.inl ⟨rfl, hw.mp trivial⟩, ht⟩) (fun q hq => nomatch hq) dX0_areDelaysGood_59
      · exact absurd c_1 (by omega)
    | succ n ih =>
      intro k b ls hk hw hl
      refine lv_iload_n hx hb dX0_areDelaysGood_6 rfl (lv_at hl 2 rfl) ?_
      refine lv_aload_n hx hb dX0_areDelaysGood_7 rfl (lv_at hl 0 rfl) ?_
      refine va_get (D := (dC, dI)) (ci := 0) (v := .int (nI ec)) (C := RX0) (T := TX0) (N := 12) hx hb hall inX0 hown hK hP 0 rfl rfl 8 (by decide) (hall _ kw_31) (fun _ h9 => h9) rfl dX0_areDelaysGood_8 ?_
      refine xc_ge (tgt := 58) hx hb (by omega) (by omega) dX0_areDelaysGood_11 (by decide) (fun c_2 => ?_) (fun c_2 => ?_)
      · exact absurd c_2 (by omega)
      · refine lv_aload_n hx hb dX0_areDelaysGood_14 rfl (lv_at hl 0 rfl) ?_
        refine va_get (D := (dC, dI)) (ci := 0) (v := .ref a6) (C := RX0) (T := TX0) (N := 12) hx hb hall inX0 hown hK hP 0 rfl rfl 7 (by decide) (hall _ kw_30) (fun _ h9 => h9) rfl dX0_areDelaysGood_15 ?_
        refine lv_iload_n hx hb dX0_areDelaysGood_18 rfl (lv_at hl 2 rfl) ?_
        refine xa_lald hx hb hK hP 6 1 rfl rfl (by omega) (by omega) dX0_areDelaysGood_19 ?_
        refine lv_lload_n hx hb dX0_areDelaysGood_20 rfl (lv_at hl 1 rfl) ?_
        refine xl_le (tgt := 43) hx hb dX0_areDelaysGood_21 dX0_areDelaysGood_22 (by decide) (fun c_3 => ?_) (fun c_3 => ?_)
        · have c_A := c_3
          refine lv_iconst (v := 0) hx hb dX0_areDelaysGood_43 (by decide) ?_
          exact W.zret (v := 0) (ty := .boolean) hx hb hr narrow_b0 (fun t9 ht hW => ⟨0, rfl, Or.inr ⟨rfl, fun q => by first | exact (hw.mpr q).1 c_A | exact c_B (hw.mpr q).2.1⟩, ht⟩) (fun q hq => nomatch hq) dX0_areDelaysGood_44
        · have c_A := c_3
          refine lv_aload_n hx hb dX0_areDelaysGood_25 rfl (lv_at hl 0 rfl) ?_
          refine va_get (D := (dC, dI)) (ci := 0) (v := .long now) (C := RX0) (T := TX0) (N := 12) hx hb hall inX0 hown hK hP 0 rfl rfl 11 (by decide) (hall _ kw_34) (fun _ h9 => h9) rfl dX0_areDelaysGood_26 ?_
          refine lv_aload_n hx hb dX0_areDelaysGood_29 rfl (lv_at hl 0 rfl) ?_
          refine va_get (D := (dC, dI)) (ci := 0) (v := .ref a6) (C := RX0) (T := TX0) (N := 12) hx hb hall inX0 hown hK hP 0 rfl rfl 7 (by decide) (hall _ kw_30) (fun _ h9 => h9) rfl dX0_areDelaysGood_30 ?_
          refine lv_iload_n hx hb dX0_areDelaysGood_33 rfl (lv_at hl 2 rfl) ?_
          refine xa_lald hx hb hK hP 6 1 rfl rfl (by omega) (by omega) dX0_areDelaysGood_34 ?_
          refine lv_ladd hx hb dX0_areDelaysGood_35 ?_
          refine lv_ldc2 (v := 1152921504606846976) hx hb hown (hall _ kw_102) dX0_areDelaysGood_36 ?_
          refine xl_le (tgt := 45) hx hb dX0_areDelaysGood_39 dX0_areDelaysGood_40 (by decide) (fun c_4 => ?_) (fun c_4 => ?_)
          · have c_B := c_4
            refine lv_aload_n hx hb dX0_areDelaysGood_45 rfl (lv_at hl 0 rfl) ?_
            refine va_get (D := (dC, dI)) (ci := 0) (v := .ref a6) (C := RX0) (T := TX0) (N := 12) hx hb hall inX0 hown hK hP 0 rfl rfl 7 (by decide) (hall _ kw_30) (fun _ h9 => h9) rfl dX0_areDelaysGood_46 ?_
            refine lv_iload_n hx hb dX0_areDelaysGood_49 rfl (lv_at hl 2 rfl) ?_
            refine xa_lald hx hb hK hP 6 1 rfl rfl (by omega) (by omega) dX0_areDelaysGood_50 ?_
            refine lv_lstore_n (lv' := [(1, .long (ed k)), (0, .ref x), (3, .int (nI k))]) hx hb dX0_areDelaysGood_51 rfl hl (by decide) rfl (fun ls hl => ?_)
            refine lv_iinc (v := nI (k + 1)) (lv' := [(3, .int (nI (k + 1))), (1, .long (ed k)), (0, .ref x)]) hx hb dX0_areDelaysGood_52 hl (k := 2) rfl (nI_1 k) (by decide) rfl (fun ls hl => ?_)
            refine lv_goto (tgt := 6) hx hb dX0_areDelaysGood_55 (by decide) ?_
            exact ih (k + 1) (ed k) ls (by omega) ⟨fun q => hw.mp ⟨c_A, c_B, q⟩, fun q => (hw.mpr q).2.2⟩ (lv_sub hl [2, 1, 0] rfl)
          · have c_B := c_4
            refine lv_iconst (v := 0) hx hb dX0_areDelaysGood_43 (by decide) ?_
            exact W.zret (v := 0) (ty := .boolean) hx hb hr narrow_b0 (fun t9 ht hW => ⟨0, rfl, Or.inr ⟨rfl, fun q => by first | exact (hw.mpr q).1 c_A | exact c_B (hw.mpr q).2.1⟩, ht⟩) (fun q hq => nomatch hq) dX0_areDelaysGood_44
  exact hloop ec 0 (-1) ls (by omega) Iff.rfl (lv_sub hl [2, 1, 0] rfl)
set_option maxHeartbeats 4000000 in
set_option maxRecDepth 100000 in
theorem c_at (l : Launch) (dC : Nat → ClassId) (dI : Nat → Nat → Nat) (x a1 a2 a3 a4 a5 a6 a7 : Nat) (cI cJ : ClassId) (nD nR : Nat) (dv : Nat → Int64) (r : Nat → Nat) (cap : Nat) (ti va ev ed : Nat → Int64) (ec : Nat) (ad : Nat → Int32) (ac : Nat) (now : Int64) (hI : wf_R nD nR cap ec ac r) (d q : Nat) (z : Int32) (hd : d < nD) (hq : q < r (d + 1) - r d) : Met l yX0_at wsX0_at ({ frames := 1, cells := 0, slots := 0, locals := 21 }) (va_Pc [.ref x, .int (nI d), .int (nI q), .int z] (fun U => va_P (dC, dI) vwCl (wr x a1 a2 a3 a4 a5 a6 a7 cI cJ nD nR dv r cap ti va ev ed ec ad ac now) U.heap ∧ va_K (dC, dI) vwCl [(cI, .int), (cJ, .long)] U)) (vp_Sl (fun v => v = if z = 0 then va (r d + q) else ti (r d + q))) 0 0 (fun _ => False) := by
  refine Met.ofW (cc := cX0_at) (maxL := 5) (ret := (some .long)) (by decide) rfl ?_
  intro p e s m args below meth c s₁ B hml hv
  obtain ⟨rfl, hP, hK⟩ := hv
  have hx := B.exec
  have hb := B.bytes
  have hr := B.returns
  have hts := atoms_spec (ws := wsX0_at) B.pre
  have hown : s.vm.findClass RX0 = some m.cls := findClass_of_methodNamed B.named
  have hlocks := B.notSynchronized
  have hall := fun (w : Cond) (h : w ∈ allw) => hts w (List.mem_cons_of_mem _ h)
  have hl := lv_entry ([.ref x, .int (nI d), .int (nI q), .int z]) (n := 5) (Nat.le_of_ble_eq_true rfl)
  rw [lg_entry_eq]
  generalize (lg_sl ([.ref x, .int (nI d), .int (nI q), .int z]) ++ List.replicate (5 - (lg_sl ([.ref x, .int (nI d), .int (nI q), .int z])).length) Slot.unset).toArray = ls at hl ⊢
  have hl : lv_has ls 5 [(0, .ref x), (1, .int (nI d)), (2, .int (nI q)), (3, .int z)] := hl
  have hI0 := hI
  obtain ⟨hnD1, hnD, hnR1, hnR, hcap, hrc, hrR, hr0, hmo, hec, hac⟩ := hI
  have hle := wf_le hmo (show d + 1 ≤ nD by omega) (Nat.le_refl nD)
  refine lv_aload_n hx hb dX0_at_0 rfl (lv_at hl 0 rfl) ?_
  refine lv_iload_n hx hb dX0_at_1 rfl (lv_at hl 1 rfl) ?_
  refine xv_call (W.runV (As := [.int (nI d)]) (rest := []) ⟨hx, hb, hml, hown, hall⟩ (c_requireDriver l dC dI x a1 a2 a3 a4 a5 a6 a7 cI cJ nD nR dv r cap ti va ev ed ec ad ac now hI0 d hd) (cwV 1 hall gX0_62 rfl rfl rfl (by decide +kernel) ⟨Nat.le_of_ble_eq_true rfl, Nat.le_of_ble_eq_true rfl⟩) ⟨xr_blind, va_recv hK hP (ci := 0) (q0 := 0) rfl rfl, fun U hU hW => ⟨rfl, by rw [hU]; exact hP, va_K.moved hW.alike hK⟩⟩ rfl rfl hl.1 rfl (lv_room (Nat.le_of_ble_eq_true rfl)) dX0_at_2 ⟨by first | exact Nat.zero_le _ | omega, by first | exact Nat.zero_le _ | omega⟩) (fun hv_2 => ?_)
  refine lv_iload_n hx hb dX0_at_5 rfl (lv_at hl 2 rfl) ?_
  refine lv_if_lt (tgt := 18) hx hb dX0_at_6 (by decide) (fun c_3 => ?_) (fun c_3 => ?_)
  · exact absurd c_3 (nI_pos (by omega))
  · refine lv_iload_n hx hb dX0_at_9 rfl (lv_at hl 2 rfl) ?_
    refine lv_aload_n hx hb dX0_at_10 rfl (lv_at hl 0 rfl) ?_
    refine lv_iload_n hx hb dX0_at_11 rfl (lv_at hl 1 rfl) ?_
    refine vp_callSi (W.runV (As := [.int (nI d)]) (rest := [.int (nI q)]) ⟨hx, hb, hml, hown, hall⟩ (c_rowLength l dC dI x a1 a2 a3 a4 a5 a6 a7 cI cJ nD nR dv r cap ti va ev ed ec ad ac now hI0 d hd) (cwV 1 hall gX0_106 rfl rfl rfl (by decide +kernel) ⟨Nat.le_of_ble_eq_true rfl, Nat.le_of_ble_eq_true rfl⟩) ⟨xr_blind, va_recv hK hP (ci := 0) (q0 := 0) rfl rfl, fun U hU hW => ⟨rfl, by rw [hU]; exact hP, va_K.moved hW.alike hK⟩⟩ rfl rfl hl.1 rfl (lv_room (Nat.le_of_ble_eq_true rfl)) dX0_at_12 ⟨by first | exact Nat.zero_le _ | omega, by first | exact Nat.zero_le _ | omega⟩) (fun v_4 hv_5 => ?_)
    subst hv_5
    refine xc_lt (tgt := 28) hx hb (by omega) (by omega) dX0_at_15 (by decide) (fun c_6 => ?_) (fun c_6 => ?_)
    · refine lv_aload_n hx hb dX0_at_28 rfl (lv_at hl 0 rfl) ?_
      refine va_get (D := (dC, dI)) (ci := 0) (v := .ref a2) (C := RX0) (T := TX0) (N := 12) hx hb hall inX0 hown hK hP 0 rfl rfl 3 (by decide) (hall _ kw_26) (fun _ h9 => h9) rfl dX0_at_29 ?_
      refine lv_iload_n hx hb dX0_at_32 rfl (lv_at hl 1 rfl) ?_
      refine xa_iald hx hb hK hP 2 0 rfl rfl (by omega) (by omega) dX0_at_33 ?_
      refine lv_iload_n hx hb dX0_at_34 rfl (lv_at hl 2 rfl) ?_
      refine lv_iadd hx hb dX0_at_35 ?_
      refine tp_i (y := nI (r d + q)) (nI_add (r d) q) ?_
      refine lv_istore (lv' := [(4, .int (nI (r d + q))), (0, .ref x), (1, .int (nI d)), (2, .int (nI q)), (3, .int z)]) hx hb dX0_at_36 hl (by decide) rfl (fun ls hl => ?_)
      refine lv_iload_n hx hb dX0_at_38 rfl (lv_at hl 4 rfl) ?_
      refine lv_if_eq (tgt := 52) hx hb dX0_at_39 (by decide) (fun c_7 => ?_) (fun c_7 => ?_)
      · have c_A := c_7
        refine lv_aload_n hx hb dX0_at_52 rfl (lv_at hl 1 rfl) ?_
        refine va_get (D := (dC, dI)) (ci := 0) (v := .ref a4) (C := RX0) (T := TX0) (N := 12) hx hb hall inX0 hown hK hP 0 rfl rfl 5 (by decide) (hall _ kw_28) (fun _ h9 => h9) rfl dX0_at_53 ?_
        refine lv_iload hx hb dX0_at_56 (lv_at hl 0 rfl) ?_
        refine xa_lald hx hb hK hP 4 1 rfl rfl (by omega) (by omega) dX0_at_58 ?_
        exact W.lret (v := va (r d + q)) hx hb hr (fun t9 ht hW => ⟨va (r d + q), rfl, (if_pos c_A).symm, ht⟩) (fun q hq => nomatch hq) dX0_at_59
      · have c_A := c_7
        refine lv_aload_n hx hb dX0_at_42 rfl (lv_at hl 1 rfl) ?_
        refine va_get (D := (dC, dI)) (ci := 0) (v := .ref a3) (C := RX0) (T := TX0) (N := 12) hx hb hall inX0 hown hK hP 0 rfl rfl 4 (by decide) (hall _ kw_27) (fun _ h9 => h9) rfl dX0_at_43 ?_
        refine lv_iload hx hb dX0_at_46 (lv_at hl 0 rfl) ?_
        refine xa_lald hx hb hK hP 3 1 rfl rfl (by omega) (by omega) dX0_at_48 ?_
        refine lv_goto (tgt := 59) hx hb dX0_at_49 (by decide) ?_
        exact W.lret (v := ti (r d + q)) hx hb hr (fun t9 ht hW => ⟨ti (r d + q), rfl, (if_neg c_A).symm, ht⟩) (fun q hq => nomatch hq) dX0_at_59
    · exact absurd c_6 (by omega)
set_option maxHeartbeats 4000000 in
set_option maxRecDepth 100000 in
theorem x_at2 (l : Launch) (dC : Nat → ClassId) (dI : Nat → Nat → Nat) (x a1 a2 a3 a4 a5 a6 a7 : Nat) (cI cJ : ClassId) (nD nR : Nat) (dv : Nat → Int64) (r : Nat → Nat) (cap : Nat) (ti va ev ed : Nat → Int64) (ec : Nat) (ad : Nat → Int32) (ac : Nat) (now : Int64) (hst : l.stackTraces = false) (hI : wf_R nD nR cap ec ac r) (d : Nat) (j z : Int32) (hd : d < nD) (hbad : j < 0 ∨ nI (r (d + 1) - r d) ≤ j) : xt_Met l yX0_at wsX0_at ({ frames := 6, cells := 1, slots := 6, locals := 82 }) (va_Pc [.ref x, .int (nI d), .int j, .int z] (fun U => va_P (dC, dI) vwCl (wr x a1 a2 a3 a4 a5 a6 a7 cI cJ nD nR dv r cap ti va ev ed ec ad ac now) U.heap ∧ va_K (dC, dI) vwCl [(cI, .int), (cJ, .long)] U ∧ xt_ok U)) "java/lang/IndexOutOfBoundsException" := by
  refine xt_ofW (cc := cX0_at) (maxL := 5) (ret := (some .long)) (by decide) rfl ?_
  intro p e s m args below meth c s₁ B hml hout hv
  obtain ⟨rfl, hP, hK, hok⟩ := hv
  have hx := B.exec
  have hb := B.bytes
  have hr := B.returns
  have hts := atoms_spec (ws := wsX0_at) B.pre
  have hown : s.vm.findClass RX0 = some m.cls := findClass_of_methodNamed B.named
  have hlocks := B.notSynchronized
  have hall := fun (w : Cond) (h : w ∈ allw) => hts w (List.mem_cons_of_mem _ h)
  have hl := lv_entry ([.ref x, .int (nI d), .int j, .int z]) (n := 5) (Nat.le_of_ble_eq_true rfl)
  rw [lg_entry_eq]
  generalize (lg_sl ([.ref x, .int (nI d), .int j, .int z]) ++ List.replicate (5 - (lg_sl ([.ref x, .int (nI d), .int j, .int z])).length) Slot.unset).toArray = ls at hl ⊢
  have hl : lv_has ls 5 [(0, .ref x), (1, .int (nI d)), (2, .int j), (3, .int z)] := hl
  have hI0 := hI
  obtain ⟨hnD1, hnD, hnR1, hnR, hcap, hrc, hrR, hr0, hmo, hec, hac⟩ := hI
  refine lv_aload_n hx hb dX0_at_0 rfl (lv_at hl 0 rfl) ?_
  refine lv_iload_n hx hb dX0_at_1 rfl (lv_at hl 1 rfl) ?_
  refine xv_call (W.runV (As := [.int (nI d)]) (rest := []) ⟨hx, hb, hml, hown, hall⟩ (c_requireDriver l dC dI x a1 a2 a3 a4 a5 a6 a7 cI cJ nD nR dv r cap ti va ev ed ec ad ac now hI0 d hd) (cwV 1 hall gX0_62 rfl rfl rfl (by decide +kernel) ⟨Nat.le_of_ble_eq_true rfl, Nat.le_of_ble_eq_true rfl⟩) ⟨xr_blind, va_recv hK hP (ci := 0) (q0 := 0) rfl rfl, fun U hU hW => ⟨rfl, by rw [hU]; exact hP, va_K.moved hW.alike hK⟩⟩ rfl rfl hl.1 rfl (lv_room (Nat.le_of_ble_eq_true rfl)) dX0_at_2 ⟨by first | exact Nat.zero_le _ | omega, by first | exact Nat.zero_le _ | omega⟩) (fun hv_2 => ?_)
  refine lv_iload_n hx hb dX0_at_5 rfl (lv_at hl 2 rfl) ?_
  refine lv_if_lt (tgt := 18) hx hb dX0_at_6 (by decide) (fun c_3 => ?_) (fun c_3 => ?_)
  · have c_A := c_3
    obtain ⟨sa, hsa⟩ := hok.2 (122, "there is no such transaction") (by decide)
    exact xt_throw (own := RX0) (cls := "java/lang/IndexOutOfBoundsException") (text := "there is no such transaction") (names := xt_rt) (ik := 120) (is := 122) (ic := 124) hx hb hst hown (by decide) (by decide) (xt_at hok _ (by decide +kernel)) (xt_at hok _ (by decide +kernel)) hsa (fun w hw => xt_at hok w (xt_in3 w hw)) (hl.1.trans hml.symm) dX0_at_18 dX0_at_21 dX0_at_22 dX0_at_24 dX0_at_27 hout (by decide) (by decide) (by decide) (by decide) hlocks
  · have c_A := c_3
    refine lv_iload_n hx hb dX0_at_9 rfl (lv_at hl 2 rfl) ?_
    refine lv_aload_n hx hb dX0_at_10 rfl (lv_at hl 0 rfl) ?_
    refine lv_iload_n hx hb dX0_at_11 rfl (lv_at hl 1 rfl) ?_
    refine vp_callSi (W.runV (As := [.int (nI d)]) (rest := [.int j]) ⟨hx, hb, hml, hown, hall⟩ (c_rowLength l dC dI x a1 a2 a3 a4 a5 a6 a7 cI cJ nD nR dv r cap ti va ev ed ec ad ac now hI0 d hd) (cwV 1 hall gX0_106 rfl rfl rfl (by decide +kernel) ⟨Nat.le_of_ble_eq_true rfl, Nat.le_of_ble_eq_true rfl⟩) ⟨xr_blind, va_recv hK hP (ci := 0) (q0 := 0) rfl rfl, fun U hU hW => ⟨rfl, by rw [hU]; exact hP, va_K.moved hW.alike hK⟩⟩ rfl rfl hl.1 rfl (lv_room (Nat.le_of_ble_eq_true rfl)) dX0_at_12 ⟨by first | exact Nat.zero_le _ | omega, by first | exact Nat.zero_le _ | omega⟩) (fun v_4 hv_5 => ?_)
    subst hv_5
    refine lv_icmp_lt (tgt := 28) hx hb dX0_at_15 (by decide) (fun c_6 => ?_) (fun c_6 => ?_)
    · exact absurd hbad (fun q => q.elim c_A (fun q => absurd c_6 (Int32.not_lt.mpr q)))
    · obtain ⟨sa, hsa⟩ := hok.2 (122, "there is no such transaction") (by decide)
      exact xt_throw (own := RX0) (cls := "java/lang/IndexOutOfBoundsException") (text := "there is no such transaction") (names := xt_rt) (ik := 120) (is := 122) (ic := 124) hx hb hst hown (by decide) (by decide) (xt_at hok _ (by decide +kernel)) (xt_at hok _ (by decide +kernel)) hsa (fun w hw => xt_at hok w (xt_in3 w hw)) (hl.1.trans hml.symm) dX0_at_18 dX0_at_21 dX0_at_22 dX0_at_24 dX0_at_27 hout (by decide) (by decide) (by decide) (by decide) hlocks
set_option maxHeartbeats 4000000 in
set_option maxRecDepth 100000 in
theorem c_projected (l : Launch) (dC : Nat → ClassId) (dI : Nat → Nat → Nat) (x a1 a2 a3 a4 a5 a6 a7 : Nat) (cI cJ : ClassId) (nD nR : Nat) (dv : Nat → Int64) (r : Nat → Nat) (cap : Nat) (ti va ev ed : Nat → Int64) (ec : Nat) (ad : Nat → Int32) (ac : Nat) (now : Int64) (hI : wf_R nD nR cap ec ac r) (d : Nat) (t : Int64) (hd : d < nD) (ht : ¬ t < now) : Met l yX0_projected wsX0_projected ({ frames := 1, cells := 0, slots := 0, locals := 25 }) (va_Pc [.ref x, .int (nI d), .long t] (fun U => va_P (dC, dI) vwCl (wr x a1 a2 a3 a4 a5 a6 a7 cI cJ nD nR dv r cap ti va ev ed ec ad ac now) U.heap ∧ va_K (dC, dI) vwCl [(cI, .int), (cJ, .long)] U)) (vp_Sl (fun v => v = if wf_fb ti t (r (d + 1) - r d) (r d) ≤ r d then dv d else va (wf_fb ti t (r (d + 1) - r d) (r d) - 1))) 0 0 (fun _ => False) := by
  refine Met.ofW (cc := cX0_projected) (maxL := 6) (ret := (some .long)) (by decide) rfl ?_
  intro p e s m args below meth c s₁ B hml hv
  obtain ⟨rfl, hP, hK⟩ := hv
  have hx := B.exec
  have hb := B.bytes
  have hr := B.returns
  have hts := atoms_spec (ws := wsX0_projected) B.pre
  have hown : s.vm.findClass RX0 = some m.cls := findClass_of_methodNamed B.named
  have hlocks := B.notSynchronized
  have hall := fun (w : Cond) (h : w ∈ allw) => hts w (List.mem_cons_of_mem _ h)
  have hl := lv_entry ([.ref x, .int (nI d), .long t]) (n := 6) (Nat.le_of_ble_eq_true rfl)
  rw [lg_entry_eq]
  generalize (lg_sl ([.ref x, .int (nI d), .long t]) ++ List.replicate (6 - (lg_sl ([.ref x, .int (nI d), .long t])).length) Slot.unset).toArray = ls at hl ⊢
  have hl : lv_has ls 6 [(0, .ref x), (1, .int (nI d)), (2, .long t)] := hl
  have hI0 := hI
  obtain ⟨hnD1, hnD, hnR1, hnR, hcap, hrc, hrR, hr0, hmo, hec, hac⟩ := hI
  have hle := wf_le hmo (show d + 1 ≤ nD by omega) (Nat.le_refl nD)
  refine lv_aload_n hx hb dX0_projected_0 rfl (lv_at hl 0 rfl) ?_
  refine lv_iload_n hx hb dX0_projected_1 rfl (lv_at hl 1 rfl) ?_
  refine xv_call (W.runV (As := [.int (nI d)]) (rest := []) ⟨hx, hb, hml, hown, hall⟩ (c_requireDriver l dC dI x a1 a2 a3 a4 a5 a6 a7 cI cJ nD nR dv r cap ti va ev ed ec ad ac now hI0 d hd) (cwV 1 hall gX0_62 rfl rfl rfl (by decide +kernel) ⟨Nat.le_of_ble_eq_true rfl, Nat.le_of_ble_eq_true rfl⟩) ⟨xr_blind, va_recv hK hP (ci := 0) (q0 := 0) rfl rfl, fun U hU hW => ⟨rfl, by rw [hU]; exact hP, va_K.moved hW.alike hK⟩⟩ rfl rfl hl.1 rfl (lv_room (Nat.le_of_ble_eq_true rfl)) dX0_projected_2 ⟨by first | exact Nat.zero_le _ | omega, by first | exact Nat.zero_le _ | omega⟩) (fun hv_2 => ?_)
  refine lv_lload_n hx hb dX0_projected_5 rfl (lv_at hl 2 rfl) ?_
  refine lv_aload_n hx hb dX0_projected_6 rfl (lv_at hl 0 rfl) ?_
  refine va_get (D := (dC, dI)) (ci := 0) (v := .long now) (C := RX0) (T := TX0) (N := 12) hx hb hall inX0 hown hK hP 0 rfl rfl 11 (by decide) (hall _ kw_34) (fun _ h9 => h9) rfl dX0_projected_7 ?_
  refine xl_ge (tgt := 24) hx hb dX0_projected_10 dX0_projected_11 (by decide) (fun c_3 => ?_) (fun c_3 => ?_)
  · refine lv_aload_n hx hb dX0_projected_24 rfl (lv_at hl 0 rfl) ?_
    refine va_get (D := (dC, dI)) (ci := 0) (v := .ref a2) (C := RX0) (T := TX0) (N := 12) hx hb hall inX0 hown hK hP 0 rfl rfl 3 (by decide) (hall _ kw_26) (fun _ h9 => h9) rfl dX0_projected_25 ?_
    refine lv_iload_n hx hb dX0_projected_28 rfl (lv_at hl 1 rfl) ?_
    refine xa_iald hx hb hK hP 2 0 rfl rfl (by omega) (by omega) dX0_projected_29 ?_
    refine lv_istore (lv' := [(4, .int (nI (r d))), (0, .ref x), (1, .int (nI d)), (2, .long t)]) hx hb dX0_projected_30 hl (by decide) rfl (fun ls hl => ?_)
    refine lv_aload_n hx hb dX0_projected_32 rfl (lv_at hl 1 rfl) ?_
    refine lv_iload hx hb dX0_projected_33 (lv_at hl 0 rfl) ?_
    refine lv_aload_n hx hb dX0_projected_35 rfl (lv_at hl 1 rfl) ?_
    refine va_get (D := (dC, dI)) (ci := 0) (v := .ref a2) (C := RX0) (T := TX0) (N := 12) hx hb hall inX0 hown hK hP 0 rfl rfl 3 (by decide) (hall _ kw_26) (fun _ h9 => h9) rfl dX0_projected_36 ?_
    refine lv_iload_n hx hb dX0_projected_39 rfl (lv_at hl 2 rfl) ?_
    refine lv_iconst (v := 1) hx hb dX0_projected_40 (by decide) ?_
    refine lv_iadd hx hb dX0_projected_41 ?_
    refine tp_i (y := nI (d + 1)) (nI_1 d) ?_
    refine xa_iald hx hb hK hP 2 0 rfl rfl (by omega) (by omega) dX0_projected_42 ?_
    refine lv_lload_n hx hb dX0_projected_43 rfl (lv_at hl 3 rfl) ?_
    refine vp_callSi (W.runV (As := [.int (nI (r d)), .int (nI (r (d + 1))), .long t]) (rest := []) ⟨hx, hb, hml, hown, hall⟩ (c_firstBehind l dC dI x a1 a2 a3 a4 a5 a6 a7 cI cJ nD nR dv r cap ti va ev ed ec ad ac now (r d) (r (d + 1)) t (hmo d hd) (Nat.le_trans hle hrc) hcap) (cwV 3 hall gX0_82 rfl rfl rfl (by decide +kernel) ⟨Nat.le_of_ble_eq_true rfl, Nat.le_of_ble_eq_true rfl⟩) ⟨xr_blind, va_recv hK hP (ci := 0) (q0 := 0) rfl rfl, fun U hU hW => ⟨rfl, by rw [hU]; exact hP, va_K.moved hW.alike hK⟩⟩ rfl rfl hl.1 rfl (lv_room (Nat.le_of_ble_eq_true rfl)) dX0_projected_44 ⟨by first | exact Nat.zero_le _ | omega, by first | exact Nat.zero_le _ | omega⟩) (fun v_4 hv_5 => ?_)
    obtain ⟨f, hf1, hf2, hf3⟩ : ∃ f, f = wf_fb ti t (r (d + 1) - r d) (r d) ∧ r d ≤ f ∧ f ≤ r d + (r (d + 1) - r d) := ⟨_, rfl, wf_fb_le ti t _ _⟩
    have hmd := hmo d hd
    obtain rfl : v_4 = nI f := hv_5.trans (by rw [hf1])
    refine lv_istore (lv' := [(5, .int (nI f)), (4, .int (nI (r d))), (0, .ref x), (1, .int (nI d)), (2, .long t)]) hx hb dX0_projected_47 hl (by decide) rfl (fun ls hl => ?_)
    refine lv_iload hx hb dX0_projected_49 (lv_at hl 0 rfl) ?_
    refine lv_iload hx hb dX0_projected_51 (lv_at hl 1 rfl) ?_
    refine xc_le (tgt := 68) hx hb (by omega) (by omega) dX0_projected_53 (by decide) (fun c_6 => ?_) (fun c_6 => ?_)
    · have c_A := c_6
      refine lv_aload_n hx hb dX0_projected_68 rfl (lv_at hl 2 rfl) ?_
      refine va_get (D := (dC, dI)) (ci := 0) (v := .ref a1) (C := RX0) (T := TX0) (N := 12) hx hb hall inX0 hown hK hP 0 rfl rfl 2 (by decide) (hall _ kw_25) (fun _ h9 => h9) rfl dX0_projected_69 ?_
      refine lv_iload_n hx hb dX0_projected_72 rfl (lv_at hl 3 rfl) ?_
      refine xa_lald hx hb hK hP 1 1 rfl rfl (by omega) (by omega) dX0_projected_73 ?_
      exact W.lret (v := dv d) hx hb hr (fun t9 ht hW => ⟨dv d, rfl, by rw [← hf1]; exact (if_pos c_A).symm, ht⟩) (fun q hq => nomatch hq) dX0_projected_74
    · have c_A := c_6
      refine lv_aload_n hx hb dX0_projected_56 rfl (lv_at hl 2 rfl) ?_
      refine va_get (D := (dC, dI)) (ci := 0) (v := .ref a4) (C := RX0) (T := TX0) (N := 12) hx hb hall inX0 hown hK hP 0 rfl rfl 5 (by decide) (hall _ kw_28) (fun _ h9 => h9) rfl dX0_projected_57 ?_
      refine lv_iload hx hb dX0_projected_60 (lv_at hl 0 rfl) ?_
      refine lv_iconst (v := 1) hx hb dX0_projected_62 (by decide) ?_
      refine lv_isub hx hb dX0_projected_63 ?_
      refine tp_i (y := nI (f - 1)) (by rw [show f = (f - 1) + 1 by omega]; exact nI_pred (f - 1)) ?_
      refine xa_lald hx hb hK hP 4 1 rfl rfl (by omega) (by omega) dX0_projected_64 ?_
      refine lv_goto (tgt := 74) hx hb dX0_projected_65 (by decide) ?_
      exact W.lret (v := va (f - 1)) hx hb hr (fun t9 ht hW => ⟨va (f - 1), rfl, by rw [← hf1]; exact (if_neg (Nat.not_le.mpr c_A)).symm, ht⟩) (fun q hq => nomatch hq) dX0_projected_74
  · exact absurd (Int64.not_le.mp c_3) ht
set_option maxHeartbeats 4000000 in
set_option maxRecDepth 100000 in
theorem x_projected2 (l : Launch) (dC : Nat → ClassId) (dI : Nat → Nat → Nat) (x a1 a2 a3 a4 a5 a6 a7 : Nat) (cI cJ : ClassId) (nD nR : Nat) (dv : Nat → Int64) (r : Nat → Nat) (cap : Nat) (ti va ev ed : Nat → Int64) (ec : Nat) (ad : Nat → Int32) (ac : Nat) (now : Int64) (hst : l.stackTraces = false) (hI : wf_R nD nR cap ec ac r) (d : Nat) (t : Int64) (hd : d < nD) (hbad : t < now) : xt_Met l yX0_projected wsX0_projected ({ frames := 6, cells := 1, slots := 6, locals := 82 }) (va_Pc [.ref x, .int (nI d), .long t] (fun U => va_P (dC, dI) vwCl (wr x a1 a2 a3 a4 a5 a6 a7 cI cJ nD nR dv r cap ti va ev ed ec ad ac now) U.heap ∧ va_K (dC, dI) vwCl [(cI, .int), (cJ, .long)] U ∧ xt_ok U)) "java/lang/IllegalArgumentException" := by
  refine xt_ofW (cc := cX0_projected) (maxL := 6) (ret := (some .long)) (by decide) rfl ?_
  intro p e s m args below meth c s₁ B hml hout hv
  obtain ⟨rfl, hP, hK, hok⟩ := hv
  have hx := B.exec
  have hb := B.bytes
  have hr := B.returns
  have hts := atoms_spec (ws := wsX0_projected) B.pre
  have hown : s.vm.findClass RX0 = some m.cls := findClass_of_methodNamed B.named
  have hlocks := B.notSynchronized
  have hall := fun (w : Cond) (h : w ∈ allw) => hts w (List.mem_cons_of_mem _ h)
  have hl := lv_entry ([.ref x, .int (nI d), .long t]) (n := 6) (Nat.le_of_ble_eq_true rfl)
  rw [lg_entry_eq]
  generalize (lg_sl ([.ref x, .int (nI d), .long t]) ++ List.replicate (6 - (lg_sl ([.ref x, .int (nI d), .long t])).length) Slot.unset).toArray = ls at hl ⊢
  have hl : lv_has ls 6 [(0, .ref x), (1, .int (nI d)), (2, .long t)] := hl
  have hI0 := hI
  obtain ⟨hnD1, hnD, hnR1, hnR, hcap, hrc, hrR, hr0, hmo, hec, hac⟩ := hI
  refine lv_aload_n hx hb dX0_projected_0 rfl (lv_at hl 0 rfl) ?_
  refine lv_iload_n hx hb dX0_projected_1 rfl (lv_at hl 1 rfl) ?_
  refine xv_call (W.runV (As := [.int (nI d)]) (rest := []) ⟨hx, hb, hml, hown, hall⟩ (c_requireDriver l dC dI x a1 a2 a3 a4 a5 a6 a7 cI cJ nD nR dv r cap ti va ev ed ec ad ac now hI0 d hd) (cwV 1 hall gX0_62 rfl rfl rfl (by decide +kernel) ⟨Nat.le_of_ble_eq_true rfl, Nat.le_of_ble_eq_true rfl⟩) ⟨xr_blind, va_recv hK hP (ci := 0) (q0 := 0) rfl rfl, fun U hU hW => ⟨rfl, by rw [hU]; exact hP, va_K.moved hW.alike hK⟩⟩ rfl rfl hl.1 rfl (lv_room (Nat.le_of_ble_eq_true rfl)) dX0_projected_2 ⟨by first | exact Nat.zero_le _ | omega, by first | exact Nat.zero_le _ | omega⟩) (fun hv_2 => ?_)
  refine lv_lload_n hx hb dX0_projected_5 rfl (lv_at hl 2 rfl) ?_
  refine lv_aload_n hx hb dX0_projected_6 rfl (lv_at hl 0 rfl) ?_
  refine va_get (D := (dC, dI)) (ci := 0) (v := .long now) (C := RX0) (T := TX0) (N := 12) hx hb hall inX0 hown hK hP 0 rfl rfl 11 (by decide) (hall _ kw_34) (fun _ h9 => h9) rfl dX0_projected_7 ?_
  refine xl_ge (tgt := 24) hx hb dX0_projected_10 dX0_projected_11 (by decide) (fun c_3 => ?_) (fun c_3 => ?_)
  · exact absurd hbad (Int64.not_lt.mpr c_3)
  · obtain ⟨sa, hsa⟩ := hok.2 (125, "the time is before NOW") (by decide)
    exact xt_throw (own := RX0) (cls := "java/lang/IllegalArgumentException") (text := "the time is before NOW") (names := xt_rt) (ik := 47) (is := 125) (ic := 51) hx hb hst hown (by decide) (by decide) (xt_at hok _ (by decide +kernel)) (xt_at hok _ (by decide +kernel)) hsa (fun w hw => xt_at hok w (xt_in1 w hw)) (hl.1.trans hml.symm) dX0_projected_14 dX0_projected_17 dX0_projected_18 dX0_projected_20 dX0_projected_23 hout (by decide) (by decide) (by decide) (by decide) hlocks
set_option maxHeartbeats 4000000 in
set_option maxRecDepth 100000 in
theorem c_next (l : Launch) (dC : Nat → ClassId) (dI : Nat → Nat → Nat) (x a1 a2 a3 a4 a5 a6 a7 : Nat) (cI cJ : ClassId) (nD nR : Nat) (dv : Nat → Int64) (r : Nat → Nat) (cap : Nat) (ti va ev ed : Nat → Int64) (ec : Nat) (ad : Nat → Int32) (ac : Nat) (now : Int64) (hI : wf_R nD nR cap ec ac r) : Met l yX0_next wsX0_next ({ frames := 1, cells := 0, slots := 0, locals := 21 }) (va_Pc [.ref x] (fun U => va_P (dC, dI) vwCl (wr x a1 a2 a3 a4 a5 a6 a7 cI cJ nD nR dv r cap ti va ev ed ec ad ac now) U.heap ∧ va_K (dC, dI) vwCl [(cI, .int), (cJ, .long)] U)) (vp_Sl (fun v => v = wf_nx r ti nD 0 (-1))) 0 0 (fun _ => False) := by
  refine Met.ofW (cc := cX0_next) (maxL := 6) (ret := (some .long)) (by decide) rfl ?_
  intro p e s m args below meth c s₁ B hml hv
  obtain ⟨rfl, hP, hK⟩ := hv
  have hx := B.exec
  have hb := B.bytes
  have hr := B.returns
  have hts := atoms_spec (ws := wsX0_next) B.pre
  have hown : s.vm.findClass RX0 = some m.cls := findClass_of_methodNamed B.named
  have hlocks := B.notSynchronized
  have hall := fun (w : Cond) (h : w ∈ allw) => hts w (List.mem_cons_of_mem _ h)
  have hl := lv_entry ([.ref x]) (n := 6) (Nat.le_of_ble_eq_true rfl)
  rw [lg_entry_eq]
  generalize (lg_sl ([.ref x]) ++ List.replicate (6 - (lg_sl ([.ref x])).length) Slot.unset).toArray = ls at hl ⊢
  have hl : lv_has ls 6 [(0, .ref x)] := hl
  have hI0 := hI
  obtain ⟨hnD1, hnD, hnR1, hnR, hcap, hrc, hrR, hr0, hmo, hec, hac⟩ := hI
  refine lv_ldc2 (v := (-1)) hx hb hown (hall _ kw_78) dX0_next_0 ?_
  refine lv_lstore_n (lv' := [(1, .long (-1)), (0, .ref x)]) hx hb dX0_next_3 rfl hl (by decide) rfl (fun ls hl => ?_)
  refine lv_iconst (v := 0) hx hb dX0_next_4 (by decide) ?_
  refine tp_i (y := nI 0) nI_0.symm ?_
  refine lv_istore_n (lv' := [(3, .int (nI 0)), (1, .long (-1)), (0, .ref x)]) hx hb dX0_next_5 rfl hl (by decide) rfl (fun ls hl => ?_)
  have hloop : ∀ (n k : Nat) (le : Int64) (ls : Array Slot), k + n = nD → wf_nx r ti n k le = wf_nx r ti nD 0 (-1) → lv_has ls 6 [(0, .ref x), (1, .long le), (3, .int (nI k))] → W p l e (headSpec wsX0_next ({ frames := 1, cells := 0, slots := 0, locals := 21 })).room s m (([.ref x] : List Value).toArray) below meth c s.heap [] 0 0 (MQ below (vp_Sl (fun v => v = wf_nx r ti nD 0 (-1))) (([.ref x] : List Value).toArray) s 0 0 (fun _ => False)) (F0 m 6 ls []) := by
    intro n
    induction n with
    | zero =>
      intro k le ls hk hw hl
      refine lv_iload_n hx hb dX0_next_6 rfl (lv_at hl 2 rfl) ?_
      refine lv_aload_n hx hb dX0_next_7 rfl (lv_at hl 0 rfl) ?_
      refine va_get (D := (dC, dI)) (ci := 0) (v := .int (nI nD)) (C := RX0) (T := TX0) (N := 12) hx hb hall inX0 hown hK hP 0 rfl rfl 0 (by decide) (hall _ kw_23) (fun _ h9 => h9) rfl dX0_next_8 ?_
      refine xc_ge (tgt := 61) hx hb (by omega) (by omega) dX0_next_11 (by decide) (fun c_1 => ?_) (fun c_1 => ?_)
      · refine lv_lload_n hx hb dX0_next_61 rfl (lv_at hl 1 rfl) ?_
        exact W.lret (v := le) hx hb hr (fun t9 ht hW => ⟨le, rfl, hw, ht⟩) (fun q hq => nomatch hq) dX0_next_62
      · exact absurd c_1 (by omega)
    | succ n ih =>
      intro k le ls hk hw hl
      have hd : k < nD := by omega
      have hmd := hmo k hd
      have hle := wf_le hmo (show k + 1 ≤ nD by omega) (Nat.le_refl nD)
      refine lv_iload_n hx hb dX0_next_6 rfl (lv_at hl 2 rfl) ?_
      refine lv_aload_n hx hb dX0_next_7 rfl (lv_at hl 0 rfl) ?_
      refine va_get (D := (dC, dI)) (ci := 0) (v := .int (nI nD)) (C := RX0) (T := TX0) (N := 12) hx hb hall inX0 hown hK hP 0 rfl rfl 0 (by decide) (hall _ kw_23) (fun _ h9 => h9) rfl dX0_next_8 ?_
      refine xc_ge (tgt := 61) hx hb (by omega) (by omega) dX0_next_11 (by decide) (fun c_2 => ?_) (fun c_2 => ?_)
      · exact absurd c_2 (by omega)
      · refine lv_aload_n hx hb dX0_next_14 rfl (lv_at hl 0 rfl) ?_
        refine lv_iload_n hx hb dX0_next_15 rfl (lv_at hl 2 rfl) ?_
        refine vp_callSi (W.runV (As := [.int (nI k)]) (rest := []) ⟨hx, hb, hml, hown, hall⟩ (c_rowLength l dC dI x a1 a2 a3 a4 a5 a6 a7 cI cJ nD nR dv r cap ti va ev ed ec ad ac now hI0 k hd) (cwV 1 hall gX0_106 rfl rfl rfl (by decide +kernel) ⟨Nat.le_of_ble_eq_true rfl, Nat.le_of_ble_eq_true rfl⟩) ⟨xr_blind, va_recv hK hP (ci := 0) (q0 := 0) rfl rfl, fun U hU hW => ⟨rfl, by rw [hU]; exact hP, va_K.moved hW.alike hK⟩⟩ rfl rfl hl.1 rfl (lv_room (Nat.le_of_ble_eq_true rfl)) dX0_next_16 ⟨by first | exact Nat.zero_le _ | omega, by first | exact Nat.zero_le _ | omega⟩) (fun v_3 hv_4 => ?_)
        subst hv_4
        refine xz_le (tgt := 55) hx hb (by omega) dX0_next_19 (by decide) (fun c_5 => ?_) (fun c_5 => ?_)
        · have c_A := c_5
          refine lv_iinc (v := nI (k + 1)) (lv' := [(3, .int (nI (k + 1))), (0, .ref x), (1, .long le)]) hx hb dX0_next_55 hl (k := 2) rfl (nI_1 k) (by decide) rfl (fun ls hl => ?_)
          refine lv_goto (tgt := 6) hx hb dX0_next_58 (by decide) ?_
          exact ih (k + 1) le ls (by omega) ((congrArg (wf_nx r ti n (k + 1)) ((if_pos c_A).symm)).trans hw) (lv_sub hl [1, 2, 0] rfl)
        · have c_A := c_5
          refine lv_aload_n hx hb dX0_next_22 rfl (lv_at hl 0 rfl) ?_
          refine va_get (D := (dC, dI)) (ci := 0) (v := .ref a3) (C := RX0) (T := TX0) (N := 12) hx hb hall inX0 hown hK hP 0 rfl rfl 4 (by decide) (hall _ kw_27) (fun _ h9 => h9) rfl dX0_next_23 ?_
          refine lv_aload_n hx hb dX0_next_26 rfl (lv_at hl 0 rfl) ?_
          refine va_get (D := (dC, dI)) (ci := 0) (v := .ref a2) (C := RX0) (T := TX0) (N := 12) hx hb hall inX0 hown hK hP 0 rfl rfl 3 (by decide) (hall _ kw_26) (fun _ h9 => h9) rfl dX0_next_27 ?_
          refine lv_iload_n hx hb dX0_next_30 rfl (lv_at hl 2 rfl) ?_
          refine xa_iald hx hb hK hP 2 0 rfl rfl (by omega) (by omega) dX0_next_31 ?_
          refine xa_lald hx hb hK hP 3 1 rfl rfl (by omega) (by omega) dX0_next_32 ?_
          refine lv_lstore (lv' := [(4, .long (ti (r k))), (0, .ref x), (1, .long le), (3, .int (nI k))]) hx hb dX0_next_33 hl (by decide) rfl (fun ls hl => ?_)
          refine lv_lload_n hx hb dX0_next_35 rfl (lv_at hl 2 rfl) ?_
          refine lv_ldc2 (v := (-1)) hx hb hown (hall _ kw_78) dX0_next_36 ?_
          refine xl_ne (tgt := 48) hx hb dX0_next_39 dX0_next_40 (by decide) (fun c_6 => ?_) (fun c_6 => ?_)
          · have c_B := c_6
            refine lv_lload_n hx hb dX0_next_48 rfl (lv_at hl 2 rfl) ?_
            refine lv_lload hx hb dX0_next_49 (lv_at hl 0 rfl) ?_
            refine va_mmin_long hx hb (hml.trans hl.1.symm) hown (hall _ kw_83) (hall _ kw_84) (hall _ kw_2) (hall _ kw_85) (Nat.le_of_ble_eq_true rfl) (Nat.le_of_ble_eq_true rfl) (Nat.le_of_ble_eq_true rfl) (Nat.le_of_ble_eq_true rfl) dX0_next_51 ?_
            refine lv_lstore_n (lv' := [(1, .long (if ti (r k) < le then ti (r k) else le)), (4, .long (ti (r k))), (0, .ref x), (3, .int (nI k))]) hx hb dX0_next_54 rfl hl (by decide) rfl (fun ls hl => ?_)
            refine lv_iinc (v := nI (k + 1)) (lv' := [(3, .int (nI (k + 1))), (1, .long (if ti (r k) < le then ti (r k) else le)), (4, .long (ti (r k))), (0, .ref x)]) hx hb dX0_next_55 hl (k := 3) rfl (nI_1 k) (by decide) rfl (fun ls hl => ?_)
            refine lv_goto (tgt := 6) hx hb dX0_next_58 (by decide) ?_
            exact ih (k + 1) (if ti (r k) < le then ti (r k) else le) ls (by omega) ((congrArg (wf_nx r ti n (k + 1)) (((if_neg (Nat.ne_of_gt c_A)).trans (if_neg c_B)).symm)).trans hw) (lv_sub hl [3, 1, 0] rfl)
          · have c_B := c_6
            refine lv_lload hx hb dX0_next_43 (lv_at hl 0 rfl) ?_
            refine lv_goto (tgt := 54) hx hb dX0_next_45 (by decide) ?_
            refine lv_lstore_n (lv' := [(1, .long (ti (r k))), (4, .long (ti (r k))), (0, .ref x), (3, .int (nI k))]) hx hb dX0_next_54 rfl hl (by decide) rfl (fun ls hl => ?_)
            refine lv_iinc (v := nI (k + 1)) (lv' := [(3, .int (nI (k + 1))), (1, .long (ti (r k))), (4, .long (ti (r k))), (0, .ref x)]) hx hb dX0_next_55 hl (k := 3) rfl (nI_1 k) (by decide) rfl (fun ls hl => ?_)
            refine lv_goto (tgt := 6) hx hb dX0_next_58 (by decide) ?_
            exact ih (k + 1) (ti (r k)) ls (by omega) ((congrArg (wf_nx r ti n (k + 1)) (((if_neg (Nat.ne_of_gt c_A)).trans (if_pos c_B)).symm)).trans hw) (lv_sub hl [3, 1, 0] rfl)
  exact hloop nD 0 (-1) ls (by omega) rfl (lv_sub hl [2, 1, 0] rfl)
set_option maxHeartbeats 4000000 in
set_option maxRecDepth 100000 in
theorem x_element1 (l : Launch) (dC : Nat → ClassId) (dI : Nat → Nat → Nat) (x a1 a2 a3 a4 a5 a6 a7 : Nat) (cI cJ : ClassId) (nD nR : Nat) (dv : Nat → Int64) (r : Nat → Nat) (cap : Nat) (ti va ev ed : Nat → Int64) (ec : Nat) (ad : Nat → Int32) (ac : Nat) (now : Int64) (hst : l.stackTraces = false) (v0 t : Int64) (hbad : t < 0 ∨ 1152921504606846976 < t) : xt_Met l yX0_element wsX0_element ({ frames := 6, cells := 1, slots := 6, locals := 82 }) (va_Pc [.ref x, .long v0, .long t] (fun U => va_P (dC, dI) vwCl (wr x a1 a2 a3 a4 a5 a6 a7 cI cJ nD nR dv r cap ti va ev ed ec ad ac now) U.heap ∧ va_K (dC, dI) vwCl [(cI, .int), (cJ, .long)] U ∧ xt_ok U)) "java/lang/IllegalArgumentException" := by
  refine xt_ofW (cc := cX0_element) (maxL := 5) (ret := none) (by decide) rfl ?_
  intro p e s m args below meth c s₁ B hml hout hv
  obtain ⟨rfl, hP, hK, hok⟩ := hv
  have hx := B.exec
  have hb := B.bytes
  have hr := B.returns
  have hts := atoms_spec (ws := wsX0_element) B.pre
  have hown : s.vm.findClass RX0 = some m.cls := findClass_of_methodNamed B.named
  have hlocks := B.notSynchronized
  have hall := fun (w : Cond) (h : w ∈ allw) => hts w (List.mem_cons_of_mem _ h)
  have hl := lv_entry ([.ref x, .long v0, .long t]) (n := 5) (Nat.le_of_ble_eq_true rfl)
  rw [lg_entry_eq]
  generalize (lg_sl ([.ref x, .long v0, .long t]) ++ List.replicate (5 - (lg_sl ([.ref x, .long v0, .long t])).length) Slot.unset).toArray = ls at hl ⊢
  have hl : lv_has ls 5 [(0, .ref x), (1, .long v0), (3, .long t)] := hl
  refine lv_lload_n hx hb dX0_element_0 rfl (lv_at hl 2 rfl) ?_
  refine lv_lconst (v := 0) hx hb dX0_element_1 (by decide) ?_
  refine xl_lt (tgt := 14) hx hb dX0_element_2 dX0_element_3 (by decide) (fun c_1 => ?_) (fun c_1 => ?_)
  · have c_A := c_1
    obtain ⟨sa, hsa⟩ := hok.2 (49, "the delay is below 0 or above 2^60") (by decide)
    exact xt_throw (own := RX0) (cls := "java/lang/IllegalArgumentException") (text := "the delay is below 0 or above 2^60") (names := xt_rt) (ik := 47) (is := 49) (ic := 51) hx hb hst hown (by decide) (by decide) (xt_at hok _ (by decide +kernel)) (xt_at hok _ (by decide +kernel)) hsa (fun w hw => xt_at hok w (xt_in1 w hw)) (hl.1.trans hml.symm) dX0_element_14 dX0_element_17 dX0_element_18 dX0_element_20 dX0_element_23 hout (by decide) (by decide) (by decide) (by decide) hlocks
  · have c_A := c_1
    refine lv_lload_n hx hb dX0_element_6 rfl (lv_at hl 2 rfl) ?_
    refine lv_ldc2 (v := 1152921504606846976) hx hb hown (hall _ kw_102) dX0_element_7 ?_
    refine xl_le (tgt := 24) hx hb dX0_element_10 dX0_element_11 (by decide) (fun c_2 => ?_) (fun c_2 => ?_)
    · exact absurd hbad (fun q => q.elim c_A (fun q => absurd q (Int64.not_lt.mpr c_2)))
    · obtain ⟨sa, hsa⟩ := hok.2 (49, "the delay is below 0 or above 2^60") (by decide)
      exact xt_throw (own := RX0) (cls := "java/lang/IllegalArgumentException") (text := "the delay is below 0 or above 2^60") (names := xt_rt) (ik := 47) (is := 49) (ic := 51) hx hb hst hown (by decide) (by decide) (xt_at hok _ (by decide +kernel)) (xt_at hok _ (by decide +kernel)) hsa (fun w hw => xt_at hok w (xt_in1 w hw)) (hl.1.trans hml.symm) dX0_element_14 dX0_element_17 dX0_element_18 dX0_element_20 dX0_element_23 hout (by decide) (by decide) (by decide) (by decide) hlocks
set_option maxHeartbeats 4000000 in
set_option maxRecDepth 100000 in
theorem x_element2 (l : Launch) (dC : Nat → ClassId) (dI : Nat → Nat → Nat) (x a1 a2 a3 a4 a5 a6 a7 : Nat) (cI cJ : ClassId) (nD nR : Nat) (dv : Nat → Int64) (r : Nat → Nat) (cap : Nat) (ti va ev ed : Nat → Int64) (ec : Nat) (ad : Nat → Int32) (ac : Nat) (now : Int64) (hst : l.stackTraces = false) (hI : wf_R nD nR cap ec ac r) (v0 t : Int64) (h1 : ¬ t < 0) (h2 : ¬ 1152921504606846976 < t) (hfull : 16 ≤ ec) : xt_Met l yX0_element wsX0_element ({ frames := 6, cells := 1, slots := 6, locals := 82 }) (va_Pc [.ref x, .long v0, .long t] (fun U => va_P (dC, dI) vwCl (wr x a1 a2 a3 a4 a5 a6 a7 cI cJ nD nR dv r cap ti va ev ed ec ad ac now) U.heap ∧ va_K (dC, dI) vwCl [(cI, .int), (cJ, .long)] U ∧ xt_ok U)) "java/lang/IllegalStateException" := by
  refine xt_ofW (cc := cX0_element) (maxL := 5) (ret := none) (by decide) rfl ?_
  intro p e s m args below meth c s₁ B hml hout hv
  obtain ⟨rfl, hP, hK, hok⟩ := hv
  have hx := B.exec
  have hb := B.bytes
  have hr := B.returns
  have hts := atoms_spec (ws := wsX0_element) B.pre
  have hown : s.vm.findClass RX0 = some m.cls := findClass_of_methodNamed B.named
  have hlocks := B.notSynchronized
  have hall := fun (w : Cond) (h : w ∈ allw) => hts w (List.mem_cons_of_mem _ h)
  have hl := lv_entry ([.ref x, .long v0, .long t]) (n := 5) (Nat.le_of_ble_eq_true rfl)
  rw [lg_entry_eq]
  generalize (lg_sl ([.ref x, .long v0, .long t]) ++ List.replicate (5 - (lg_sl ([.ref x, .long v0, .long t])).length) Slot.unset).toArray = ls at hl ⊢
  have hl : lv_has ls 5 [(0, .ref x), (1, .long v0), (3, .long t)] := hl
  obtain ⟨hnD1, hnD, hnR1, hnR, hcap, hrc, hrR, hr0, hmo, hec, hac⟩ := hI
  refine lv_lload_n hx hb dX0_element_0 rfl (lv_at hl 2 rfl) ?_
  refine lv_lconst (v := 0) hx hb dX0_element_1 (by decide) ?_
  refine xl_lt (tgt := 14) hx hb dX0_element_2 dX0_element_3 (by decide) (fun c_1 => ?_) (fun c_1 => ?_)
  · exact absurd c_1 h1
  · refine lv_lload_n hx hb dX0_element_6 rfl (lv_at hl 2 rfl) ?_
    refine lv_ldc2 (v := 1152921504606846976) hx hb hown (hall _ kw_102) dX0_element_7 ?_
    refine xl_le (tgt := 24) hx hb dX0_element_10 dX0_element_11 (by decide) (fun c_2 => ?_) (fun c_2 => ?_)
    · refine lv_aload_n hx hb dX0_element_24 rfl (lv_at hl 0 rfl) ?_
      refine va_get (D := (dC, dI)) (ci := 0) (v := .int (nI ec)) (C := RX0) (T := TX0) (N := 12) hx hb hall inX0 hown hK hP 0 rfl rfl 8 (by decide) (hall _ kw_31) (fun _ h9 => h9) rfl dX0_element_25 ?_
      refine lv_bipush (v := 16) hx hb dX0_element_28 (by decide) ?_
      refine tp_i (y := nI 16) (by decide) ?_
      refine xc_lt (tgt := 43) hx hb (by omega) (by omega) dX0_element_30 (by decide) (fun c_3 => ?_) (fun c_3 => ?_)
      · exact absurd c_3 (by omega)
      · obtain ⟨sa, hsa⟩ := hok.2 (59, "there are 16 elements") (by decide)
        exact xt_throw (own := RX0) (cls := "java/lang/IllegalStateException") (text := "there are 16 elements") (names := xt_rt) (ik := 57) (is := 59) (ic := 61) hx hb hst hown (by decide) (by decide) (xt_at hok _ (by decide +kernel)) (xt_at hok _ (by decide +kernel)) hsa (fun w hw => xt_at hok w (xt_in2 w hw)) (hl.1.trans hml.symm) dX0_element_33 dX0_element_36 dX0_element_37 dX0_element_39 dX0_element_42 hout (by decide) (by decide) (by decide) (by decide) hlocks
    · exact absurd (Int64.not_le.mp c_2) h2
set_option maxHeartbeats 4000000 in
set_option maxRecDepth 100000 in
theorem x_advance (l : Launch) (dC : Nat → ClassId) (dI : Nat → Nat → Nat) (x a1 a2 a3 a4 a5 a6 a7 : Nat) (cI cJ : ClassId) (nD nR : Nat) (dv : Nat → Int64) (r : Nat → Nat) (cap : Nat) (ti va ev ed : Nat → Int64) (ec : Nat) (ad : Nat → Int32) (ac : Nat) (now : Int64) (hst : l.stackTraces = false) (t : Int64) (hbad : t < now ∨ 1152921504606846976 < t) : xt_Met l yX0_advance wsX0_advance ({ frames := 6, cells := 1, slots := 6, locals := 82 }) (va_Pc [.ref x, .long t] (fun U => va_P (dC, dI) vwCl (wr x a1 a2 a3 a4 a5 a6 a7 cI cJ nD nR dv r cap ti va ev ed ec ad ac now) U.heap ∧ va_K (dC, dI) vwCl [(cI, .int), (cJ, .long)] U ∧ xt_ok U)) "java/lang/IllegalArgumentException" := by
  refine xt_ofW (cc := cX0_advance) (maxL := 8) (ret := (some .int)) (by decide) rfl ?_
  intro p e s m args below meth c s₁ B hml hout hv
  obtain ⟨rfl, hP, hK, hok⟩ := hv
  have hx := B.exec
  have hb := B.bytes
  have hr := B.returns
  have hts := atoms_spec (ws := wsX0_advance) B.pre
  have hown : s.vm.findClass RX0 = some m.cls := findClass_of_methodNamed B.named
  have hlocks := B.notSynchronized
  have hall := fun (w : Cond) (h : w ∈ allw) => hts w (List.mem_cons_of_mem _ h)
  have hl := lv_entry ([.ref x, .long t]) (n := 8) (Nat.le_of_ble_eq_true rfl)
  rw [lg_entry_eq]
  generalize (lg_sl ([.ref x, .long t]) ++ List.replicate (8 - (lg_sl ([.ref x, .long t])).length) Slot.unset).toArray = ls at hl ⊢
  have hl : lv_has ls 8 [(0, .ref x), (1, .long t)] := hl
  refine lv_lload_n hx hb dX0_advance_0 rfl (lv_at hl 1 rfl) ?_
  refine lv_aload_n hx hb dX0_advance_1 rfl (lv_at hl 0 rfl) ?_
  refine va_get (D := (dC, dI)) (ci := 0) (v := .long now) (C := RX0) (T := TX0) (N := 12) hx hb hall inX0 hown hK hP 0 rfl rfl 11 (by decide) (hall _ kw_34) (fun _ h9 => h9) rfl dX0_advance_2 ?_
  refine xl_lt (tgt := 17) hx hb dX0_advance_5 dX0_advance_6 (by decide) (fun c_1 => ?_) (fun c_1 => ?_)
  · have c_A := c_1
    obtain ⟨sa, hsa⟩ := hok.2 (110, "the time is before NOW or above 2^60") (by decide)
    exact xt_throw (own := RX0) (cls := "java/lang/IllegalArgumentException") (text := "the time is before NOW or above 2^60") (names := xt_rt) (ik := 47) (is := 110) (ic := 51) hx hb hst hown (by decide) (by decide) (xt_at hok _ (by decide +kernel)) (xt_at hok _ (by decide +kernel)) hsa (fun w hw => xt_at hok w (xt_in1 w hw)) (hl.1.trans hml.symm) dX0_advance_17 dX0_advance_20 dX0_advance_21 dX0_advance_23 dX0_advance_26 hout (by decide) (by decide) (by decide) (by decide) hlocks
  · have c_A := c_1
    refine lv_lload_n hx hb dX0_advance_9 rfl (lv_at hl 1 rfl) ?_
    refine lv_ldc2 (v := 1152921504606846976) hx hb hown (hall _ kw_102) dX0_advance_10 ?_
    refine xl_le (tgt := 27) hx hb dX0_advance_13 dX0_advance_14 (by decide) (fun c_2 => ?_) (fun c_2 => ?_)
    · exact absurd hbad (fun q => q.elim c_A (fun q => absurd q (Int64.not_lt.mpr c_2)))
    · obtain ⟨sa, hsa⟩ := hok.2 (110, "the time is before NOW or above 2^60") (by decide)
      exact xt_throw (own := RX0) (cls := "java/lang/IllegalArgumentException") (text := "the time is before NOW or above 2^60") (names := xt_rt) (ik := 47) (is := 110) (ic := 51) hx hb hst hown (by decide) (by decide) (xt_at hok _ (by decide +kernel)) (xt_at hok _ (by decide +kernel)) hsa (fun w hw => xt_at hok w (xt_in1 w hw)) (hl.1.trans hml.symm) dX0_advance_17 dX0_advance_20 dX0_advance_21 dX0_advance_23 dX0_advance_26 hout (by decide) (by decide) (by decide) (by decide) hlocks
set_option maxHeartbeats 4000000 in
set_option maxRecDepth 100000 in
theorem x_assign2 (l : Launch) (dC : Nat → ClassId) (dI : Nat → Nat → Nat) (x a1 a2 a3 a4 a5 a6 a7 : Nat) (cI cJ : ClassId) (nD nR : Nat) (dv : Nat → Int64) (r : Nat → Nat) (cap : Nat) (ti va ev ed : Nat → Int64) (ec : Nat) (ad : Nat → Int32) (ac : Nat) (now : Int64) (hst : l.stackTraces = false) (hI : wf_R nD nR cap ec ac r) (d : Nat) (mo : Int32) (t : Int64) (hd : d < nD) (hz : ec = 0) : xt_Met l yX0_assign wsX0_assign ({ frames := 6, cells := 1, slots := 6, locals := 82 }) (va_Pc [.ref x, .int (nI d), .int mo, .long t] (fun U => va_P (dC, dI) vwCl (wr x a1 a2 a3 a4 a5 a6 a7 cI cJ nD nR dv r cap ti va ev ed ec ad ac now) U.heap ∧ va_K (dC, dI) vwCl [(cI, .int), (cJ, .long)] U ∧ xt_ok U)) "java/lang/IllegalStateException" := by
  refine xt_ofW (cc := cX0_assign) (maxL := 14) (ret := (some .int)) (by decide) rfl ?_
  intro p e s m args below meth c s₁ B hml hout hv
  obtain ⟨rfl, hP, hK, hok⟩ := hv
  have hx := B.exec
  have hb := B.bytes
  have hr := B.returns
  have hts := atoms_spec (ws := wsX0_assign) B.pre
  have hown : s.vm.findClass RX0 = some m.cls := findClass_of_methodNamed B.named
  have hlocks := B.notSynchronized
  have hall := fun (w : Cond) (h : w ∈ allw) => hts w (List.mem_cons_of_mem _ h)
  have hl := lv_entry ([.ref x, .int (nI d), .int mo, .long t]) (n := 14) (Nat.le_of_ble_eq_true rfl)
  rw [lg_entry_eq]
  generalize (lg_sl ([.ref x, .int (nI d), .int mo, .long t]) ++ List.replicate (14 - (lg_sl ([.ref x, .int (nI d), .int mo, .long t])).length) Slot.unset).toArray = ls at hl ⊢
  have hl : lv_has ls 14 [(0, .ref x), (1, .int (nI d)), (2, .int mo), (3, .long t)] := hl
  have hI0 := hI
  obtain ⟨hnD1, hnD, hnR1, hnR, hcap, hrc, hrR, hr0, hmo, hec, hac⟩ := hI
  refine lv_aload_n hx hb dX0_assign_0 rfl (lv_at hl 0 rfl) ?_
  refine lv_iload_n hx hb dX0_assign_1 rfl (lv_at hl 1 rfl) ?_
  refine xv_call (W.runV (As := [.int (nI d)]) (rest := []) ⟨hx, hb, hml, hown, hall⟩ (c_requireDriver l dC dI x a1 a2 a3 a4 a5 a6 a7 cI cJ nD nR dv r cap ti va ev ed ec ad ac now hI0 d hd) (cwV 1 hall gX0_62 rfl rfl rfl (by decide +kernel) ⟨Nat.le_of_ble_eq_true rfl, Nat.le_of_ble_eq_true rfl⟩) ⟨xr_blind, va_recv hK hP (ci := 0) (q0 := 0) rfl rfl, fun U hU hW => ⟨rfl, by rw [hU]; exact hP, va_K.moved hW.alike hK⟩⟩ rfl rfl hl.1 rfl (lv_room (Nat.le_of_ble_eq_true rfl)) dX0_assign_2 ⟨by first | exact Nat.zero_le _ | omega, by first | exact Nat.zero_le _ | omega⟩) (fun hv_2 => ?_)
  refine lv_aload_n hx hb dX0_assign_5 rfl (lv_at hl 0 rfl) ?_
  refine va_get (D := (dC, dI)) (ci := 0) (v := .int (nI ec)) (C := RX0) (T := TX0) (N := 12) hx hb hall inX0 hown hK hP 0 rfl rfl 8 (by decide) (hall _ kw_31) (fun _ h9 => h9) rfl dX0_assign_6 ?_
  refine xz_ne (tgt := 22) hx hb (by omega) dX0_assign_9 (by decide) (fun c_3 => ?_) (fun c_3 => ?_)
  · exact absurd c_3 (by omega)
  · obtain ⟨sa, hsa⟩ := hok.2 (66, "no element is laid down") (by decide)
    exact xt_throw (own := RX0) (cls := "java/lang/IllegalStateException") (text := "no element is laid down") (names := xt_rt) (ik := 57) (is := 66) (ic := 61) hx hb hst hown (by decide) (by decide) (xt_at hok _ (by decide +kernel)) (xt_at hok _ (by decide +kernel)) hsa (fun w hw => xt_at hok w (xt_in2 w hw)) (hl.1.trans hml.symm) dX0_assign_12 dX0_assign_15 dX0_assign_16 dX0_assign_18 dX0_assign_21 hout (by decide) (by decide) (by decide) (by decide) hlocks
set_option maxHeartbeats 4000000 in
set_option maxRecDepth 100000 in
theorem x_assign3 (l : Launch) (dC : Nat → ClassId) (dI : Nat → Nat → Nat) (x a1 a2 a3 a4 a5 a6 a7 : Nat) (cI cJ : ClassId) (nD nR : Nat) (dv : Nat → Int64) (r : Nat → Nat) (cap : Nat) (ti va ev ed : Nat → Int64) (ec : Nat) (ad : Nat → Int32) (ac : Nat) (now : Int64) (hst : l.stackTraces = false) (hI : wf_R nD nR cap ec ac r) (d : Nat) (mo : Int32) (t : Int64) (hd : d < nD) (hz : 0 < ec) (hbad : ¬ (wf_lg mo (ed 0) t ∧ wf_dg ed now ec 0 (-1))) : xt_Met l yX0_assign wsX0_assign ({ frames := 6, cells := 1, slots := 6, locals := 82 }) (va_Pc [.ref x, .int (nI d), .int mo, .long t] (fun U => va_P (dC, dI) vwCl (wr x a1 a2 a3 a4 a5 a6 a7 cI cJ nD nR dv r cap ti va ev ed ec ad ac now) U.heap ∧ va_K (dC, dI) vwCl [(cI, .int), (cJ, .long)] U ∧ xt_ok U)) "java/lang/IllegalArgumentException" := by
  refine xt_ofW (cc := cX0_assign) (maxL := 14) (ret := (some .int)) (by decide) rfl ?_
  intro p e s m args below meth c s₁ B hml hout hv
  obtain ⟨rfl, hP, hK, hok⟩ := hv
  have hx := B.exec
  have hb := B.bytes
  have hr := B.returns
  have hts := atoms_spec (ws := wsX0_assign) B.pre
  have hown : s.vm.findClass RX0 = some m.cls := findClass_of_methodNamed B.named
  have hlocks := B.notSynchronized
  have hall := fun (w : Cond) (h : w ∈ allw) => hts w (List.mem_cons_of_mem _ h)
  have hl := lv_entry ([.ref x, .int (nI d), .int mo, .long t]) (n := 14) (Nat.le_of_ble_eq_true rfl)
  rw [lg_entry_eq]
  generalize (lg_sl ([.ref x, .int (nI d), .int mo, .long t]) ++ List.replicate (14 - (lg_sl ([.ref x, .int (nI d), .int mo, .long t])).length) Slot.unset).toArray = ls at hl ⊢
  have hl : lv_has ls 14 [(0, .ref x), (1, .int (nI d)), (2, .int mo), (3, .long t)] := hl
  have hI0 := hI
  obtain ⟨hnD1, hnD, hnR1, hnR, hcap, hrc, hrR, hr0, hmo, hec, hac⟩ := hI
  refine lv_aload_n hx hb dX0_assign_0 rfl (lv_at hl 0 rfl) ?_
  refine lv_iload_n hx hb dX0_assign_1 rfl (lv_at hl 1 rfl) ?_
  refine xv_call (W.runV (As := [.int (nI d)]) (rest := []) ⟨hx, hb, hml, hown, hall⟩ (c_requireDriver l dC dI x a1 a2 a3 a4 a5 a6 a7 cI cJ nD nR dv r cap ti va ev ed ec ad ac now hI0 d hd) (cwV 1 hall gX0_62 rfl rfl rfl (by decide +kernel) ⟨Nat.le_of_ble_eq_true rfl, Nat.le_of_ble_eq_true rfl⟩) ⟨xr_blind, va_recv hK hP (ci := 0) (q0 := 0) rfl rfl, fun U hU hW => ⟨rfl, by rw [hU]; exact hP, va_K.moved hW.alike hK⟩⟩ rfl rfl hl.1 rfl (lv_room (Nat.le_of_ble_eq_true rfl)) dX0_assign_2 ⟨by first | exact Nat.zero_le _ | omega, by first | exact Nat.zero_le _ | omega⟩) (fun hv_2 => ?_)
  refine lv_aload_n hx hb dX0_assign_5 rfl (lv_at hl 0 rfl) ?_
  refine va_get (D := (dC, dI)) (ci := 0) (v := .int (nI ec)) (C := RX0) (T := TX0) (N := 12) hx hb hall inX0 hown hK hP 0 rfl rfl 8 (by decide) (hall _ kw_31) (fun _ h9 => h9) rfl dX0_assign_6 ?_
  refine xz_ne (tgt := 22) hx hb (by omega) dX0_assign_9 (by decide) (fun c_3 => ?_) (fun c_3 => ?_)
  · refine lv_aload_n hx hb dX0_assign_22 rfl (lv_at hl 0 rfl) ?_
    refine lv_iload_n hx hb dX0_assign_23 rfl (lv_at hl 2 rfl) ?_
    refine lv_lload_n hx hb dX0_assign_24 rfl (lv_at hl 3 rfl) ?_
    refine vp_callSi (W.runV (As := [.int mo, .long t]) (rest := []) ⟨hx, hb, hml, hown, hall⟩ (c_isLimitGood l dC dI x a1 a2 a3 a4 a5 a6 a7 cI cJ nD nR dv r cap ti va ev ed ec ad ac now mo t) (cwV 2 hall gX0_68 rfl rfl rfl (by decide +kernel) ⟨Nat.le_of_ble_eq_true rfl, Nat.le_of_ble_eq_true rfl⟩) ⟨xr_blind, va_recv hK hP (ci := 0) (q0 := 0) rfl rfl, fun U hU hW => ⟨rfl, by rw [hU]; exact hP, va_K.moved hW.alike hK⟩⟩ rfl rfl hl.1 rfl (lv_room (Nat.le_of_ble_eq_true rfl)) dX0_assign_25 ⟨by first | exact Nat.zero_le _ | omega, by first | exact Nat.zero_le _ | omega⟩) (fun v_4 hv_5 => ?_)
    rcases hv_5 with ⟨rfl, hg1⟩ | ⟨rfl, hg1⟩
    · refine lv_if_eq (tgt := 38) hx hb dX0_assign_28 (by decide) (fun c_6 => ?_) (fun c_6 => ?_)
      · exact absurd c_6 (by decide)
      · refine lv_aload_n hx hb dX0_assign_31 rfl (lv_at hl 0 rfl) ?_
        refine vp_callSi (W.runV (As := []) (rest := []) ⟨hx, hb, hml, hown, hall⟩ (c_areDelaysGood l dC dI x a1 a2 a3 a4 a5 a6 a7 cI cJ nD nR dv r cap ti va ev ed ec ad ac now hI0) (cwV 0 hall gX0_72 rfl rfl rfl (by decide +kernel) ⟨Nat.le_of_ble_eq_true rfl, Nat.le_of_ble_eq_true rfl⟩) ⟨xr_blind, va_recv hK hP (ci := 0) (q0 := 0) rfl rfl, fun U hU hW => ⟨rfl, by rw [hU]; exact hP, va_K.moved hW.alike hK⟩⟩ rfl rfl hl.1 rfl (lv_room (Nat.le_of_ble_eq_true rfl)) dX0_assign_32 ⟨by first | exact Nat.zero_le _ | omega, by first | exact Nat.zero_le _ | omega⟩) (fun v_7 hv_8 => ?_)
        rcases hv_8 with ⟨rfl, hg2⟩ | ⟨rfl, hg2⟩
        · refine lv_if_ne (tgt := 48) hx hb dX0_assign_35 (by decide) (fun c_9 => ?_) (fun c_9 => ?_)
          · exact absurd ⟨hg1, hg2⟩ hbad
          · exact absurd c_9 (by decide)
        · refine lv_if_ne (tgt := 48) hx hb dX0_assign_35 (by decide) (fun c_10 => ?_) (fun c_10 => ?_)
          · exact absurd rfl c_10
          · obtain ⟨sa, hsa⟩ := hok.2 (76, "the mode, the limit or the delays are wrong") (by decide)
            exact xt_throw (own := RX0) (cls := "java/lang/IllegalArgumentException") (text := "the mode, the limit or the delays are wrong") (names := xt_rt) (ik := 47) (is := 76) (ic := 51) hx hb hst hown (by decide) (by decide) (xt_at hok _ (by decide +kernel)) (xt_at hok _ (by decide +kernel)) hsa (fun w hw => xt_at hok w (xt_in1 w hw)) (hl.1.trans hml.symm) dX0_assign_38 dX0_assign_41 dX0_assign_42 dX0_assign_44 dX0_assign_47 hout (by decide) (by decide) (by decide) (by decide) hlocks
    · refine lv_if_eq (tgt := 38) hx hb dX0_assign_28 (by decide) (fun c_11 => ?_) (fun c_11 => ?_)
      · obtain ⟨sa, hsa⟩ := hok.2 (76, "the mode, the limit or the delays are wrong") (by decide)
        exact xt_throw (own := RX0) (cls := "java/lang/IllegalArgumentException") (text := "the mode, the limit or the delays are wrong") (names := xt_rt) (ik := 47) (is := 76) (ic := 51) hx hb hst hown (by decide) (by decide) (xt_at hok _ (by decide +kernel)) (xt_at hok _ (by decide +kernel)) hsa (fun w hw => xt_at hok w (xt_in1 w hw)) (hl.1.trans hml.symm) dX0_assign_38 dX0_assign_41 dX0_assign_42 dX0_assign_44 dX0_assign_47 hout (by decide) (by decide) (by decide) (by decide) hlocks
      · exact absurd rfl c_11
  · exact absurd c_3 (by omega)
end
section
abbrev wf_T : Type := (Nat → Nat) × (Nat → Int64) × (Nat → Int64) × (Nat → Int64) × (Nat → Int32)
/-! advance, in numbers: which transaction of driver k is the first behind t; how many of all rows before k stay; how many drivers before k become active -/
def wf_lt (t : Int64) (r : Nat → Nat) (ti : Nat → Int64) (k : Nat) : Nat := wf_fb ti t (r (k + 1) - r k) (r k)
def wf_K (t : Int64) (r : Nat → Nat) (ti : Nat → Int64) : Nat → Nat
  | 0 => 0
  | k + 1 => wf_K t r ti k + (r (k + 1) - wf_lt t r ti k)
def wf_N (t : Int64) (r : Nat → Nat) (ti : Nat → Int64) : Nat → Nat
  | 0 => 0
  | k + 1 => wf_N t r ti k + (if r k < wf_lt t r ti k then 1 else 0)
theorem wf_fb_congr {f g : Nat → Int64} {t : Int64} : ∀ n a : Nat, (∀ j, a ≤ j → j < a + n → f j = g j) → wf_fb f t n a = wf_fb g t n a := by
  intro n
  induction n with
  | zero => intro a _; rfl
  | succ n ih =>
    intro a h
    unfold wf_fb
    rw [h a (Nat.le_refl a) (by omega), ih (a + 1) (fun j h1 h2 => h j (by omega) (by omega))]
theorem wf_lt_in (t : Int64) (r : Nat → Nat) (ti : Nat → Int64) (k : Nat) (h : r k ≤ r (k + 1)) : r k ≤ wf_lt t r ti k ∧ wf_lt t r ti k ≤ r (k + 1) := by
  have q := wf_fb_le ti t (r (k + 1) - r k) (r k)
  unfold wf_lt
  omega
theorem wf_K_le {t : Int64} {r : Nat → Nat} {ti : Nat → Int64} {nD : Nat} (h0 : r 0 = 0) (hmo : ∀ j, j < nD → r j ≤ r (j + 1)) : ∀ k, k ≤ nD → wf_K t r ti k ≤ r k := by
  intro k
  induction k with
  | zero => intro _; exact Nat.zero_le _
  | succ k ih =>
    intro hk
    have h1 := ih (by omega)
    have h2 := wf_lt_in t r ti k (hmo k (by omega))
    show wf_K t r ti k + (r (k + 1) - wf_lt t r ti k) ≤ r (k + 1)
    omega
theorem wf_K_mono {t : Int64} {r : Nat → Nat} {ti : Nat → Int64} : ∀ n j : Nat, wf_K t r ti j ≤ wf_K t r ti (j + n) := by
  intro n
  induction n with
  | zero => intro j; exact Nat.le_refl _
  | succ n ih => intro j; exact Nat.le_trans (ih j) (Nat.le_add_right _ _)
theorem wf_N_mono {t : Int64} {r : Nat → Nat} {ti : Nat → Int64} : ∀ n j : Nat, wf_N t r ti j ≤ wf_N t r ti (j + n) := by
  intro n
  induction n with
  | zero => intro j; exact Nat.le_refl _
  | succ n ih => intro j; exact Nat.le_trans (ih j) (Nat.le_add_right _ _)
theorem wf_N_le {t : Int64} {r : Nat → Nat} {ti : Nat → Int64} : ∀ k : Nat, wf_N t r ti k ≤ k := by
  intro k
  induction k with
  | zero => exact Nat.le_refl _
  | succ k ih =>
    show wf_N t r ti k + (if r k < wf_lt t r ti k then 1 else 0) ≤ k + 1
    split <;> omega
/-- what holds of the arrays with the drivers before k done -/
def wf_V (t : Int64) (r : Nat → Nat) (ti va dv : Nat → Int64) (k : Nat) (rc : Nat → Nat) (tc vc dc : Nat → Int64) (ac : Nat → Int32) : Prop :=
  (∀ j, j < k → rc j = wf_K t r ti j) ∧ (∀ j, k ≤ j → rc j = r j) ∧
  (∀ j, j < k → ∀ i, i < r (j + 1) - wf_lt t r ti j → tc (wf_K t r ti j + i) = ti (wf_lt t r ti j + i) ∧ vc (wf_K t r ti j + i) = va (wf_lt t r ti j + i)) ∧
  (∀ j, r k ≤ j → tc j = ti j ∧ vc j = va j) ∧
  (∀ j, j < k → dc j = if r j < wf_lt t r ti j then va (wf_lt t r ti j - 1) else dv j) ∧ (∀ j, k ≤ j → dc j = dv j) ∧
  (∀ j, j < k → r j < wf_lt t r ti j → ac (wf_N t r ti j) = nI j)
theorem wf_V_0 (t : Int64) (r : Nat → Nat) (ti va dv : Nat → Int64) (ac : Nat → Int32) : wf_V t r ti va dv 0 r ti va dv ac :=
  ⟨fun j h => absurd h (Nat.not_lt_zero j), fun _ _ => rfl, fun j h => absurd h (Nat.not_lt_zero j), fun _ _ => ⟨rfl, rfl⟩, fun j h => absurd h (Nat.not_lt_zero j), fun _ _ => rfl, fun j h => absurd h (Nat.not_lt_zero j)⟩
theorem wf_V_lt {t : Int64} {r : Nat → Nat} {ti va dv : Nat → Int64} {k : Nat} {rc : Nat → Nat} {tc vc dc : Nat → Int64} {ac : Nat → Int32} (h : wf_V t r ti va dv k rc tc vc dc ac) : wf_fb tc t (r (k + 1) - r k) (r k) = wf_lt t r ti k :=
  wf_fb_congr _ _ (fun j h1 _ => (h.2.2.2.1 j h1).1)
theorem wf_V_step {t : Int64} {r : Nat → Nat} {ti va dv : Nat → Int64} {k nD : Nat} {rc : Nat → Nat} {tc vc dc : Nat → Int64} {ac : Nat → Int32} (h0 : r 0 = 0) (hmo : ∀ j, j < nD → r j ≤ r (j + 1)) (hk : k < nD)
    (h : wf_V t r ti va dv k rc tc vc dc ac) {dc' : Nat → Int64} {ac' : Nat → Int32} (hd : ∀ j, j ≠ k → dc' j = dc j) (hdk : dc' k = if r k < wf_lt t r ti k then va (wf_lt t r ti k - 1) else dv k)
    (ha : ∀ j, j < wf_N t r ti k → ac' j = ac j) (hak : r k < wf_lt t r ti k → ac' (wf_N t r ti k) = nI k) :
    wf_V t r ti va dv (k + 1) (un rc k (wf_K t r ti k)) (va_cpy tc tc (wf_lt t r ti k) (wf_K t r ti k) (r (k + 1) - wf_lt t r ti k)) (va_cpy vc vc (wf_lt t r ti k) (wf_K t r ti k) (r (k + 1) - wf_lt t r ti k)) dc' ac' := by
  obtain ⟨v1, v2, v3, v4, v5, v6, v7⟩ := h
  have hl := wf_lt_in t r ti k (hmo k hk)
  have hK := wf_K_le (t := t) (ti := ti) h0 hmo k (by omega)
  refine ⟨fun j hj => ?_, fun j hj => ?_, fun j hj i hi => ?_, fun j hj => ?_, fun j hj => ?_, fun j hj => ?_, fun j hj hq => ?_⟩
  · unfold un
    by_cases q : j = k
    · subst q; exact if_pos rfl
    · rw [if_neg q]; exact v1 j (by omega)
  · unfold un
    rw [if_neg (by omega)]
    exact v2 j (by omega)
  · by_cases q : j = k
    · subst q
      rw [pk_cpy_in (by omega) (by omega), pk_cpy_in (by omega) (by omega), show wf_K t r ti j + i - wf_K t r ti j = i by omega]
      exact v4 _ (by omega)
    · have q1 : j + 1 ≤ k := by omega
      have q2 := wf_K_mono (t := t) (r := r) (ti := ti) (k - (j + 1)) (j + 1)
      rw [show j + 1 + (k - (j + 1)) = k by omega] at q2
      have q3 : wf_K t r ti (j + 1) = wf_K t r ti j + (r (j + 1) - wf_lt t r ti j) := rfl
      rw [pk_cpy_out (Or.inl (by omega)), pk_cpy_out (Or.inl (by omega))]
      exact v3 j (by omega) i hi
  · rw [pk_cpy_out (Or.inr (by omega)), pk_cpy_out (Or.inr (by omega))]
    exact v4 j (by omega)
  · by_cases q : j = k
    · subst q; exact hdk
    · rw [hd j q]; exact v5 j (by omega)
  · rw [hd j (by omega)]; exact v6 j (by omega)
  · by_cases q : j = k
    · subst q; exact hak hq
    · have q2 := wf_N_mono (t := t) (r := r) (ti := ti) (k - (j + 1)) (j + 1)
      rw [show j + 1 + (k - (j + 1)) = k by omega] at q2
      have q3 : wf_N t r ti (j + 1) = wf_N t r ti j + (if r j < wf_lt t r ti j then 1 else 0) := rfl
      rw [if_pos hq] at q3
      rw [ha _ (by omega)]
      exact v7 j (by omega) hq
end
section
set_option maxHeartbeats 4000000 in
set_option maxRecDepth 100000 in
theorem c_drop (l : Launch) (dC : Nat → ClassId) (dI : Nat → Nat → Nat) (x a1 a2 a3 a4 a5 a6 a7 : Nat) (cI cJ : ClassId) (nD nR : Nat) (dv : Nat → Int64) (r : Nat → Nat) (cap : Nat) (ti va ev ed : Nat → Int64) (ec : Nat) (ad : Nat → Int32) (ac : Nat) (now : Int64) (sz : Nat)  : Met l yX0_drop wsX0_drop ({ frames := 0, cells := 0, slots := 0, locals := 0 }) (va_Pc [.ref x] (fun U => U.heap.size = sz ∧ va_P (dC, dI) vwCl (wr x a1 a2 a3 a4 a5 a6 a7 cI cJ nD nR dv r cap ti va ev ed ec ad ac now) U.heap ∧ va_K (dC, dI) vwCl [(cI, .int), (cJ, .long)] U ∧ va_D (fun _ => True) (wr x a1 a2 a3 a4 a5 a6 a7 cI cJ nD nR dv r cap ti va ev ed ec ad ac now))) (va_Qi (fun (v : Int32) (_ : Unit) => v = nI ec) (fun _ t9 => va_P (dC, dI) vwCl (wr x a1 a2 a3 a4 a5 a6 a7 cI cJ nD nR dv r cap ti va ev ed 0 ad ac now) t9.heap ∧ va_K (dC, dI) vwCl [(cI, .int), (cJ, .long)] t9 ∧ va_D (va_A (wr x a1 a2 a3 a4 a5 a6 a7 cI cJ nD nR dv r cap ti va ev ed ec ad ac now) sz) (wr x a1 a2 a3 a4 a5 a6 a7 cI cJ nD nR dv r cap ti va ev ed 0 ad ac now)) (va_A (wr x a1 a2 a3 a4 a5 a6 a7 cI cJ nD nR dv r cap ti va ev ed ec ad ac now) sz)) 0 0 (va_A (wr x a1 a2 a3 a4 a5 a6 a7 cI cJ nD nR dv r cap ti va ev ed ec ad ac now) sz) := by
  refine Met.ofW (cc := cX0_drop) (maxL := 2) (ret := (some .int)) (by decide) rfl ?_
  intro p e s m args below meth c s₁ B hml hv
  obtain ⟨rfl, hsz, hP, hK, hD0⟩ := hv
  subst hsz
  have hD := hD0.self (sz := s.heap.size)
  generalize hAe : va_A (wr x a1 a2 a3 a4 a5 a6 a7 cI cJ nD nR dv r cap ti va ev ed ec ad ac now) s.heap.size = A at hD ⊢
  have hA : ∀ q : Nat, s.heap.size ≤ q → A q := fun q h => by rw [← hAe]; exact Or.inr h
  have hS : va_S A s.heap s.heap [] := va_S.rf
  have hx := B.exec
  have hb := B.bytes
  have hr := B.returns
  have hts := atoms_spec (ws := wsX0_drop) B.pre
  have hown : s.vm.findClass RX0 = some m.cls := findClass_of_methodNamed B.named
  have hlocks := B.notSynchronized
  have hall := fun (w : Cond) (h : w ∈ allw) => hts w (List.mem_cons_of_mem _ h)
  have hl := lv_entry ([.ref x]) (n := 2) (Nat.le_of_ble_eq_true rfl)
  rw [lg_entry_eq]
  generalize (lg_sl ([.ref x]) ++ List.replicate (2 - (lg_sl ([.ref x])).length) Slot.unset).toArray = ls at hl ⊢
  have hl : lv_has ls 2 [(0, .ref x)] := hl
  refine lv_aload_n hx hb dX0_drop_0 rfl (lv_at hl 0 rfl) ?_
  refine va_get (D := (dC, dI)) (ci := 0) (v := .int (nI ec)) (C := RX0) (T := TX0) (N := 12) hx hb hall inX0 hown hK hP 0 rfl rfl 8 (by decide) (hall _ kw_31) (fun _ h9 => h9) rfl dX0_drop_1 ?_
  refine lv_istore_n (lv' := [(1, .int (nI ec)), (0, .ref x)]) hx hb dX0_drop_4 rfl hl (by decide) rfl (fun ls hl => ?_)
  refine lv_aload_n hx hb dX0_drop_5 rfl (lv_at hl 1 rfl) ?_
  refine lv_iconst (v := 0) hx hb dX0_drop_6 (by decide) ?_
  refine tp_i (y := nI 0) nI_0.symm ?_
  refine va_put (D := (dC, dI)) (ci := 0) (v := .int (nI 0)) (ty := .int) (C := RX0) (T := TX0) (N := 12) hx hb hall inX0 tyX0 tyX0_ok nmX0 hown hK hP hD hS 0 rfl rfl 8 (by decide) (hall _ kw_31) (fun _ h9 => h9) rfl (by decide +kernel) rfl rfl (Nat.le_of_ble_eq_true rfl) dX0_drop_7 (fun H locs hP hD hS => ?_)
  have hP : va_P (dC, dI) vwCl [(x, .inr (0, [.int (nI nD), .int (nI nR), .ref a1, .ref a2, .ref a3, .ref a4, .ref a5, .ref a6, .int (nI 0), .ref a7, .int (nI ac), .long now])), (a1, .inl (cJ, nD, .inr (.inl dv))), (a2, .inl (cI, nD + 1, .inl (fun j => nI (r j)))), (a3, .inl (cJ, cap, .inr (.inl ti))), (a4, .inl (cJ, cap, .inr (.inl va))), (a5, .inl (cJ, 16, .inr (.inl ev))), (a6, .inl (cJ, 16, .inr (.inl ed))), (a7, .inl (cI, nD, .inl ad))] H := hP
  have hD : va_D A [(x, .inr (0, [.int (nI nD), .int (nI nR), .ref a1, .ref a2, .ref a3, .ref a4, .ref a5, .ref a6, .int (nI 0), .ref a7, .int (nI ac), .long now])), (a1, .inl (cJ, nD, .inr (.inl dv))), (a2, .inl (cI, nD + 1, .inl (fun j => nI (r j)))), (a3, .inl (cJ, cap, .inr (.inl ti))), (a4, .inl (cJ, cap, .inr (.inl va))), (a5, .inl (cJ, 16, .inr (.inl ev))), (a6, .inl (cJ, 16, .inr (.inl ed))), (a7, .inl (cI, nD, .inl ad))] := hD
  refine lv_iload_n hx hb dX0_drop_10 rfl (lv_at hl 0 rfl) ?_
  exact W.iret (v := nI ec) hx hb hr (fun t9 ht hW => ⟨⟨nI ec, (), rfl, rfl, by rw [ht]; exact hP, va_K.moved hW.alike hK, hD⟩, hS.F ht⟩) hS.2.2 dX0_drop_11
set_option maxHeartbeats 4000000 in
set_option maxRecDepth 100000 in
theorem c_element (l : Launch) (dC : Nat → ClassId) (dI : Nat → Nat → Nat) (x a1 a2 a3 a4 a5 a6 a7 : Nat) (cI cJ : ClassId) (nD nR : Nat) (dv : Nat → Int64) (r : Nat → Nat) (cap : Nat) (ti va ev ed : Nat → Int64) (ec : Nat) (ad : Nat → Int32) (ac : Nat) (now : Int64) (sz : Nat) (hI : wf_R nD nR cap ec ac r) (v0 t : Int64) (h1 : ¬ t < 0) (h2 : ¬ 1152921504606846976 < t) (h3 : ec < 16) : Met l yX0_element wsX0_element ({ frames := 0, cells := 0, slots := 0, locals := 0 }) (va_Pc [.ref x, .long v0, .long t] (fun U => U.heap.size = sz ∧ va_P (dC, dI) vwCl (wr x a1 a2 a3 a4 a5 a6 a7 cI cJ nD nR dv r cap ti va ev ed ec ad ac now) U.heap ∧ va_K (dC, dI) vwCl [(cI, .int), (cJ, .long)] U ∧ va_D (fun _ => True) (wr x a1 a2 a3 a4 a5 a6 a7 cI cJ nD nR dv r cap ti va ev ed ec ad ac now))) (va_Qv (fun _ : Unit => True) (fun _ t9 => va_P (dC, dI) vwCl (wr x a1 a2 a3 a4 a5 a6 a7 cI cJ nD nR dv r cap ti va (vp_updL ev ec v0) (vp_updL ed ec t) (ec + 1) ad ac now) t9.heap ∧ va_K (dC, dI) vwCl [(cI, .int), (cJ, .long)] t9 ∧ va_D (va_A (wr x a1 a2 a3 a4 a5 a6 a7 cI cJ nD nR dv r cap ti va ev ed ec ad ac now) sz) (wr x a1 a2 a3 a4 a5 a6 a7 cI cJ nD nR dv r cap ti va (vp_updL ev ec v0) (vp_updL ed ec t) (ec + 1) ad ac now)) (va_A (wr x a1 a2 a3 a4 a5 a6 a7 cI cJ nD nR dv r cap ti va ev ed ec ad ac now) sz)) 0 0 (va_A (wr x a1 a2 a3 a4 a5 a6 a7 cI cJ nD nR dv r cap ti va ev ed ec ad ac now) sz) := by
  refine Met.ofW (cc := cX0_element) (maxL := 5) (ret := none) (by decide) rfl ?_
  intro p e s m args below meth c s₁ B hml hv
  obtain ⟨rfl, hsz, hP, hK, hD0⟩ := hv
  subst hsz
  have hD := hD0.self (sz := s.heap.size)
  generalize hAe : va_A (wr x a1 a2 a3 a4 a5 a6 a7 cI cJ nD nR dv r cap ti va ev ed ec ad ac now) s.heap.size = A at hD ⊢
  have hA : ∀ q : Nat, s.heap.size ≤ q → A q := fun q h => by rw [← hAe]; exact Or.inr h
  have hS : va_S A s.heap s.heap [] := va_S.rf
  have hx := B.exec
  have hb := B.bytes
  have hr := B.returns
  have hts := atoms_spec (ws := wsX0_element) B.pre
  have hown : s.vm.findClass RX0 = some m.cls := findClass_of_methodNamed B.named
  have hlocks := B.notSynchronized
  have hall := fun (w : Cond) (h : w ∈ allw) => hts w (List.mem_cons_of_mem _ h)
  have hl := lv_entry ([.ref x, .long v0, .long t]) (n := 5) (Nat.le_of_ble_eq_true rfl)
  rw [lg_entry_eq]
  generalize (lg_sl ([.ref x, .long v0, .long t]) ++ List.replicate (5 - (lg_sl ([.ref x, .long v0, .long t])).length) Slot.unset).toArray = ls at hl ⊢
  have hl : lv_has ls 5 [(0, .ref x), (1, .long v0), (3, .long t)] := hl
  obtain ⟨hnD1, hnD, hnR1, hnR, hcap, hrc, hrR, hr0, hmo, hec, hac⟩ := hI
  refine lv_lload_n hx hb dX0_element_0 rfl (lv_at hl 2 rfl) ?_
  refine lv_lconst (v := 0) hx hb dX0_element_1 (by decide) ?_
  refine xl_lt (tgt := 14) hx hb dX0_element_2 dX0_element_3 (by decide) (fun c_1 => ?_) (fun c_1 => ?_)
  · exact absurd c_1 h1
  · refine lv_lload_n hx hb dX0_element_6 rfl (lv_at hl 2 rfl) ?_
    refine lv_ldc2 (v := 1152921504606846976) hx hb hown (hall _ kw_102) dX0_element_7 ?_
    refine xl_le (tgt := 24) hx hb dX0_element_10 dX0_element_11 (by decide) (fun c_2 => ?_) (fun c_2 => ?_)
    · refine lv_aload_n hx hb dX0_element_24 rfl (lv_at hl 0 rfl) ?_
      refine va_get (D := (dC, dI)) (ci := 0) (v := .int (nI ec)) (C := RX0) (T := TX0) (N := 12) hx hb hall inX0 hown hK hP 0 rfl rfl 8 (by decide) (hall _ kw_31) (fun _ h9 => h9) rfl dX0_element_25 ?_
      refine lv_bipush (v := 16) hx hb dX0_element_28 (by decide) ?_
      refine tp_i (y := nI 16) (by decide) ?_
      refine xc_lt (tgt := 43) hx hb (by omega) (by omega) dX0_element_30 (by decide) (fun c_3 => ?_) (fun c_3 => ?_)
      · refine lv_aload_n hx hb dX0_element_43 rfl (lv_at hl 0 rfl) ?_
        refine va_get (D := (dC, dI)) (ci := 0) (v := .ref a5) (C := RX0) (T := TX0) (N := 12) hx hb hall inX0 hown hK hP 0 rfl rfl 6 (by decide) (hall _ kw_29) (fun _ h9 => h9) rfl dX0_element_44 ?_
        refine lv_aload_n hx hb dX0_element_47 rfl (lv_at hl 0 rfl) ?_
        refine va_get (D := (dC, dI)) (ci := 0) (v := .int (nI ec)) (C := RX0) (T := TX0) (N := 12) hx hb hall inX0 hown hK hP 0 rfl rfl 8 (by decide) (hall _ kw_31) (fun _ h9 => h9) rfl dX0_element_48 ?_
        refine lv_lload_n hx hb dX0_element_51 rfl (lv_at hl 1 rfl) ?_
        refine xa_last hx hb hK hP hD hS 5 1 rfl rfl (by omega) (by omega) dX0_element_52 (fun H locs hP hD hS => ?_)
        have hP : va_P (dC, dI) vwCl [(x, .inr (0, [.int (nI nD), .int (nI nR), .ref a1, .ref a2, .ref a3, .ref a4, .ref a5, .ref a6, .int (nI ec), .ref a7, .int (nI ac), .long now])), (a1, .inl (cJ, nD, .inr (.inl dv))), (a2, .inl (cI, nD + 1, .inl (fun j => nI (r j)))), (a3, .inl (cJ, cap, .inr (.inl ti))), (a4, .inl (cJ, cap, .inr (.inl va))), (a5, .inl (cJ, 16, .inr (.inl (vp_updL ev ec v0)))), (a6, .inl (cJ, 16, .inr (.inl ed))), (a7, .inl (cI, nD, .inl ad))] H := hP
        have hD : va_D A [(x, .inr (0, [.int (nI nD), .int (nI nR), .ref a1, .ref a2, .ref a3, .ref a4, .ref a5, .ref a6, .int (nI ec), .ref a7, .int (nI ac), .long now])), (a1, .inl (cJ, nD, .inr (.inl dv))), (a2, .inl (cI, nD + 1, .inl (fun j => nI (r j)))), (a3, .inl (cJ, cap, .inr (.inl ti))), (a4, .inl (cJ, cap, .inr (.inl va))), (a5, .inl (cJ, 16, .inr (.inl (vp_updL ev ec v0)))), (a6, .inl (cJ, 16, .inr (.inl ed))), (a7, .inl (cI, nD, .inl ad))] := hD
        refine lv_aload_n hx hb dX0_element_53 rfl (lv_at hl 0 rfl) ?_
        refine va_get (D := (dC, dI)) (ci := 0) (v := .ref a6) (C := RX0) (T := TX0) (N := 12) hx hb hall inX0 hown hK hP 0 rfl rfl 7 (by decide) (hall _ kw_30) (fun _ h9 => h9) rfl dX0_element_54 ?_
        refine lv_aload_n hx hb dX0_element_57 rfl (lv_at hl 0 rfl) ?_
        refine va_get (D := (dC, dI)) (ci := 0) (v := .int (nI ec)) (C := RX0) (T := TX0) (N := 12) hx hb hall inX0 hown hK hP 0 rfl rfl 8 (by decide) (hall _ kw_31) (fun _ h9 => h9) rfl dX0_element_58 ?_
        refine lv_lload_n hx hb dX0_element_61 rfl (lv_at hl 2 rfl) ?_
        refine xa_last hx hb hK hP hD hS 6 1 rfl rfl (by omega) (by omega) dX0_element_62 (fun H locs hP hD hS => ?_)
        have hP : va_P (dC, dI) vwCl [(x, .inr (0, [.int (nI nD), .int (nI nR), .ref a1, .ref a2, .ref a3, .ref a4, .ref a5, .ref a6, .int (nI ec), .ref a7, .int (nI ac), .long now])), (a1, .inl (cJ, nD, .inr (.inl dv))), (a2, .inl (cI, nD + 1, .inl (fun j => nI (r j)))), (a3, .inl (cJ, cap, .inr (.inl ti))), (a4, .inl (cJ, cap, .inr (.inl va))), (a5, .inl (cJ, 16, .inr (.inl (vp_updL ev ec v0)))), (a6, .inl (cJ, 16, .inr (.inl (vp_updL ed ec t)))), (a7, .inl (cI, nD, .inl ad))] H := hP
        have hD : va_D A [(x, .inr (0, [.int (nI nD), .int (nI nR), .ref a1, .ref a2, .ref a3, .ref a4, .ref a5, .ref a6, .int (nI ec), .ref a7, .int (nI ac), .long now])), (a1, .inl (cJ, nD, .inr (.inl dv))), (a2, .inl (cI, nD + 1, .inl (fun j => nI (r j)))), (a3, .inl (cJ, cap, .inr (.inl ti))), (a4, .inl (cJ, cap, .inr (.inl va))), (a5, .inl (cJ, 16, .inr (.inl (vp_updL ev ec v0)))), (a6, .inl (cJ, 16, .inr (.inl (vp_updL ed ec t)))), (a7, .inl (cI, nD, .inl ad))] := hD
        refine lv_aload_n hx hb dX0_element_63 rfl (lv_at hl 0 rfl) ?_
        refine lv_dup hx hb dX0_element_64 rfl ?_
        refine va_get (D := (dC, dI)) (ci := 0) (v := .int (nI ec)) (C := RX0) (T := TX0) (N := 12) hx hb hall inX0 hown hK hP 0 rfl rfl 8 (by decide) (hall _ kw_31) (fun _ h9 => h9) rfl dX0_element_65 ?_
        refine lv_iconst (v := 1) hx hb dX0_element_68 (by decide) ?_
        refine lv_iadd hx hb dX0_element_69 ?_
        refine tp_i (y := nI (ec + 1)) (nI_1 ec) ?_
        refine va_put (D := (dC, dI)) (ci := 0) (v := .int (nI (ec + 1))) (ty := .int) (C := RX0) (T := TX0) (N := 12) hx hb hall inX0 tyX0 tyX0_ok nmX0 hown hK hP hD hS 0 rfl rfl 8 (by decide) (hall _ kw_31) (fun _ h9 => h9) rfl (by decide +kernel) rfl rfl (Nat.le_of_ble_eq_true rfl) dX0_element_70 (fun H locs hP hD hS => ?_)
        have hP : va_P (dC, dI) vwCl [(x, .inr (0, [.int (nI nD), .int (nI nR), .ref a1, .ref a2, .ref a3, .ref a4, .ref a5, .ref a6, .int (nI (ec + 1)), .ref a7, .int (nI ac), .long now])), (a1, .inl (cJ, nD, .inr (.inl dv))), (a2, .inl (cI, nD + 1, .inl (fun j => nI (r j)))), (a3, .inl (cJ, cap, .inr (.inl ti))), (a4, .inl (cJ, cap, .inr (.inl va))), (a5, .inl (cJ, 16, .inr (.inl (vp_updL ev ec v0)))), (a6, .inl (cJ, 16, .inr (.inl (vp_updL ed ec t)))), (a7, .inl (cI, nD, .inl ad))] H := hP
        have hD : va_D A [(x, .inr (0, [.int (nI nD), .int (nI nR), .ref a1, .ref a2, .ref a3, .ref a4, .ref a5, .ref a6, .int (nI (ec + 1)), .ref a7, .int (nI ac), .long now])), (a1, .inl (cJ, nD, .inr (.inl dv))), (a2, .inl (cI, nD + 1, .inl (fun j => nI (r j)))), (a3, .inl (cJ, cap, .inr (.inl ti))), (a4, .inl (cJ, cap, .inr (.inl va))), (a5, .inl (cJ, 16, .inr (.inl (vp_updL ev ec v0)))), (a6, .inl (cJ, 16, .inr (.inl (vp_updL ed ec t)))), (a7, .inl (cI, nD, .inl ad))] := hD
        exact W.vret hx hb hr (fun t9 ht hW => ⟨⟨(), rfl, trivial, by rw [ht]; exact hP, va_K.moved hW.alike hK, hD⟩, hS.F ht⟩) hS.2.2 dX0_element_73
      · exact absurd c_3 (by omega)
    · exact absurd (Int64.not_le.mp c_2) h2
set_option maxHeartbeats 4000000 in
set_option maxRecDepth 100000 in
theorem c_moveTransactions (l : Launch) (dC : Nat → ClassId) (dI : Nat → Nat → Nat) (x a1 a2 a3 a4 a5 a6 a7 : Nat) (cI cJ : ClassId) (nD nR : Nat) (dv : Nat → Int64) (r : Nat → Nat) (cap : Nat) (ti va ev ed : Nat → Int64) (ec : Nat) (ad : Nat → Int32) (ac : Nat) (now : Int64) (sz : Nat) (f t n : Nat) (h1 : f + n ≤ cap) (h2 : t + n ≤ cap) (hc : cap ≤ 8192) : Met l yX0_moveTransactions wsX0_moveTransactions ({ frames := 1, cells := 0, slots := 0, locals := 60 }) (va_Pc [.ref x, .int (nI f), .int (nI t), .int (nI n)] (fun U => U.heap.size = sz ∧ va_P (dC, dI) vwCl (wr x a1 a2 a3 a4 a5 a6 a7 cI cJ nD nR dv r cap ti va ev ed ec ad ac now) U.heap ∧ va_K (dC, dI) vwCl [(cI, .int), (cJ, .long)] U ∧ va_D (fun _ => True) (wr x a1 a2 a3 a4 a5 a6 a7 cI cJ nD nR dv r cap ti va ev ed ec ad ac now))) (va_Qv (fun _ : Unit => True) (fun _ t9 => va_P (dC, dI) vwCl (wr x a1 a2 a3 a4 a5 a6 a7 cI cJ nD nR dv r cap (va_cpy ti ti f t n) (va_cpy va va f t n) ev ed ec ad ac now) t9.heap ∧ va_K (dC, dI) vwCl [(cI, .int), (cJ, .long)] t9 ∧ va_D (va_A (wr x a1 a2 a3 a4 a5 a6 a7 cI cJ nD nR dv r cap ti va ev ed ec ad ac now) sz) (wr x a1 a2 a3 a4 a5 a6 a7 cI cJ nD nR dv r cap (va_cpy ti ti f t n) (va_cpy va va f t n) ev ed ec ad ac now)) (va_A (wr x a1 a2 a3 a4 a5 a6 a7 cI cJ nD nR dv r cap ti va ev ed ec ad ac now) sz)) 0 0 (va_A (wr x a1 a2 a3 a4 a5 a6 a7 cI cJ nD nR dv r cap ti va ev ed ec ad ac now) sz) := by
  refine Met.ofW (cc := cX0_moveTransactions) (maxL := 4) (ret := none) (by decide) rfl ?_
  intro p e s m args below meth c s₁ B hml hv
  obtain ⟨rfl, hsz, hP, hK, hD0⟩ := hv
  subst hsz
  have hD := hD0.self (sz := s.heap.size)
  generalize hAe : va_A (wr x a1 a2 a3 a4 a5 a6 a7 cI cJ nD nR dv r cap ti va ev ed ec ad ac now) s.heap.size = A at hD ⊢
  have hA : ∀ q : Nat, s.heap.size ≤ q → A q := fun q h => by rw [← hAe]; exact Or.inr h
  have hS : va_S A s.heap s.heap [] := va_S.rf
  have hx := B.exec
  have hb := B.bytes
  have hr := B.returns
  have hts := atoms_spec (ws := wsX0_moveTransactions) B.pre
  have hown : s.vm.findClass RX0 = some m.cls := findClass_of_methodNamed B.named
  have hlocks := B.notSynchronized
  have hall := fun (w : Cond) (h : w ∈ allw) => hts w (List.mem_cons_of_mem _ h)
  have hl := lv_entry ([.ref x, .int (nI f), .int (nI t), .int (nI n)]) (n := 4) (Nat.le_of_ble_eq_true rfl)
  rw [lg_entry_eq]
  generalize (lg_sl ([.ref x, .int (nI f), .int (nI t), .int (nI n)]) ++ List.replicate (4 - (lg_sl ([.ref x, .int (nI f), .int (nI t), .int (nI n)])).length) Slot.unset).toArray = ls at hl ⊢
  have hl : lv_has ls 4 [(0, .ref x), (1, .int (nI f)), (2, .int (nI t)), (3, .int (nI n))] := hl
  refine lv_aload_n hx hb dX0_moveTransactions_0 rfl (lv_at hl 0 rfl) ?_
  refine va_get (D := (dC, dI)) (ci := 0) (v := .ref a3) (C := RX0) (T := TX0) (N := 12) hx hb hall inX0 hown hK hP 0 rfl rfl 4 (by decide) (hall _ kw_27) (fun _ h9 => h9) rfl dX0_moveTransactions_1 ?_
  refine lv_iload_n hx hb dX0_moveTransactions_4 rfl (lv_at hl 1 rfl) ?_
  refine lv_aload_n hx hb dX0_moveTransactions_5 rfl (lv_at hl 0 rfl) ?_
  refine va_get (D := (dC, dI)) (ci := 0) (v := .ref a3) (C := RX0) (T := TX0) (N := 12) hx hb hall inX0 hown hK hP 0 rfl rfl 4 (by decide) (hall _ kw_27) (fun _ h9 => h9) rfl dX0_moveTransactions_6 ?_
  refine lv_iload_n hx hb dX0_moveTransactions_9 rfl (lv_at hl 2 rfl) ?_
  refine lv_iload_n hx hb dX0_moveTransactions_10 rfl (lv_at hl 3 rfl) ?_
  refine xa_copyl hx hb (hml.trans hl.1.symm) hown (hall _ kw_242) (hall _ kw_244) (hall _ kw_243) (hall _ kw_10) hK hP hD hS 3 1 rfl rfl (by omega) (by omega) (by omega) (Nat.le_of_ble_eq_true rfl) (Nat.le_of_ble_eq_true rfl) dX0_moveTransactions_11 (fun H locs hP hD hS => ?_)
  have hP : va_P (dC, dI) vwCl [(x, .inr (0, [.int (nI nD), .int (nI nR), .ref a1, .ref a2, .ref a3, .ref a4, .ref a5, .ref a6, .int (nI ec), .ref a7, .int (nI ac), .long now])), (a1, .inl (cJ, nD, .inr (.inl dv))), (a2, .inl (cI, nD + 1, .inl (fun j => nI (r j)))), (a3, .inl (cJ, cap, .inr (.inl (va_cpy ti ti f t n)))), (a4, .inl (cJ, cap, .inr (.inl va))), (a5, .inl (cJ, 16, .inr (.inl ev))), (a6, .inl (cJ, 16, .inr (.inl ed))), (a7, .inl (cI, nD, .inl ad))] H := hP
  have hD : va_D A [(x, .inr (0, [.int (nI nD), .int (nI nR), .ref a1, .ref a2, .ref a3, .ref a4, .ref a5, .ref a6, .int (nI ec), .ref a7, .int (nI ac), .long now])), (a1, .inl (cJ, nD, .inr (.inl dv))), (a2, .inl (cI, nD + 1, .inl (fun j => nI (r j)))), (a3, .inl (cJ, cap, .inr (.inl (va_cpy ti ti f t n)))), (a4, .inl (cJ, cap, .inr (.inl va))), (a5, .inl (cJ, 16, .inr (.inl ev))), (a6, .inl (cJ, 16, .inr (.inl ed))), (a7, .inl (cI, nD, .inl ad))] := hD
  refine lv_aload_n hx hb dX0_moveTransactions_14 rfl (lv_at hl 0 rfl) ?_
  refine va_get (D := (dC, dI)) (ci := 0) (v := .ref a4) (C := RX0) (T := TX0) (N := 12) hx hb hall inX0 hown hK hP 0 rfl rfl 5 (by decide) (hall _ kw_28) (fun _ h9 => h9) rfl dX0_moveTransactions_15 ?_
  refine lv_iload_n hx hb dX0_moveTransactions_18 rfl (lv_at hl 1 rfl) ?_
  refine lv_aload_n hx hb dX0_moveTransactions_19 rfl (lv_at hl 0 rfl) ?_
  refine va_get (D := (dC, dI)) (ci := 0) (v := .ref a4) (C := RX0) (T := TX0) (N := 12) hx hb hall inX0 hown hK hP 0 rfl rfl 5 (by decide) (hall _ kw_28) (fun _ h9 => h9) rfl dX0_moveTransactions_20 ?_
  refine lv_iload_n hx hb dX0_moveTransactions_23 rfl (lv_at hl 2 rfl) ?_
  refine lv_iload_n hx hb dX0_moveTransactions_24 rfl (lv_at hl 3 rfl) ?_
  refine xa_copyl hx hb (hml.trans hl.1.symm) hown (hall _ kw_242) (hall _ kw_244) (hall _ kw_243) (hall _ kw_10) hK hP hD hS 4 1 rfl rfl (by omega) (by omega) (by omega) (Nat.le_of_ble_eq_true rfl) (Nat.le_of_ble_eq_true rfl) dX0_moveTransactions_25 (fun H locs hP hD hS => ?_)
  have hP : va_P (dC, dI) vwCl [(x, .inr (0, [.int (nI nD), .int (nI nR), .ref a1, .ref a2, .ref a3, .ref a4, .ref a5, .ref a6, .int (nI ec), .ref a7, .int (nI ac), .long now])), (a1, .inl (cJ, nD, .inr (.inl dv))), (a2, .inl (cI, nD + 1, .inl (fun j => nI (r j)))), (a3, .inl (cJ, cap, .inr (.inl (va_cpy ti ti f t n)))), (a4, .inl (cJ, cap, .inr (.inl (va_cpy va va f t n)))), (a5, .inl (cJ, 16, .inr (.inl ev))), (a6, .inl (cJ, 16, .inr (.inl ed))), (a7, .inl (cI, nD, .inl ad))] H := hP
  have hD : va_D A [(x, .inr (0, [.int (nI nD), .int (nI nR), .ref a1, .ref a2, .ref a3, .ref a4, .ref a5, .ref a6, .int (nI ec), .ref a7, .int (nI ac), .long now])), (a1, .inl (cJ, nD, .inr (.inl dv))), (a2, .inl (cI, nD + 1, .inl (fun j => nI (r j)))), (a3, .inl (cJ, cap, .inr (.inl (va_cpy ti ti f t n)))), (a4, .inl (cJ, cap, .inr (.inl (va_cpy va va f t n)))), (a5, .inl (cJ, 16, .inr (.inl ev))), (a6, .inl (cJ, 16, .inr (.inl ed))), (a7, .inl (cI, nD, .inl ad))] := hD
  exact W.vret hx hb hr (fun t9 ht hW => ⟨⟨(), rfl, trivial, by rw [ht]; exact hP, va_K.moved hW.alike hK, hD⟩, hS.F ht⟩) hS.2.2 dX0_moveTransactions_28
set_option maxHeartbeats 4000000 in
set_option maxRecDepth 100000 in
theorem c_writeElements (l : Launch) (dC : Nat → ClassId) (dI : Nat → Nat → Nat) (x a1 a2 a3 a4 a5 a6 a7 : Nat) (cI cJ : ClassId) (nD nR : Nat) (dv : Nat → Int64) (r : Nat → Nat) (cap : Nat) (ti va ev ed : Nat → Int64) (ec : Nat) (ad : Nat → Int32) (ac : Nat) (now : Int64) (sz : Nat) (f : Nat) (h1 : f + ec ≤ cap) (hc : cap ≤ 8192) (hec : ec ≤ 16) : Met l yX0_writeElements wsX0_writeElements ({ frames := 0, cells := 0, slots := 0, locals := 0 }) (va_Pc [.ref x, .int (nI f)] (fun U => U.heap.size = sz ∧ va_P (dC, dI) vwCl (wr x a1 a2 a3 a4 a5 a6 a7 cI cJ nD nR dv r cap ti va ev ed ec ad ac now) U.heap ∧ va_K (dC, dI) vwCl [(cI, .int), (cJ, .long)] U ∧ va_D (fun _ => True) (wr x a1 a2 a3 a4 a5 a6 a7 cI cJ nD nR dv r cap ti va ev ed ec ad ac now))) (va_Qv (fun _ : Unit => True) (fun _ t9 => va_P (dC, dI) vwCl (wr x a1 a2 a3 a4 a5 a6 a7 cI cJ nD nR dv r cap (wf_pt ti f (fun i => now + ed i) ec) (wf_pt va f ev ec) ev ed ec ad ac now) t9.heap ∧ va_K (dC, dI) vwCl [(cI, .int), (cJ, .long)] t9 ∧ va_D (va_A (wr x a1 a2 a3 a4 a5 a6 a7 cI cJ nD nR dv r cap ti va ev ed ec ad ac now) sz) (wr x a1 a2 a3 a4 a5 a6 a7 cI cJ nD nR dv r cap (wf_pt ti f (fun i => now + ed i) ec) (wf_pt va f ev ec) ev ed ec ad ac now)) (va_A (wr x a1 a2 a3 a4 a5 a6 a7 cI cJ nD nR dv r cap ti va ev ed ec ad ac now) sz)) 0 0 (va_A (wr x a1 a2 a3 a4 a5 a6 a7 cI cJ nD nR dv r cap ti va ev ed ec ad ac now) sz) := by
  refine Met.ofW (cc := cX0_writeElements) (maxL := 3) (ret := none) (by decide) rfl ?_
  intro p e s m args below meth c s₁ B hml hv
  obtain ⟨rfl, hsz, hP, hK, hD0⟩ := hv
  subst hsz
  have hD := hD0.self (sz := s.heap.size)
  generalize hAe : va_A (wr x a1 a2 a3 a4 a5 a6 a7 cI cJ nD nR dv r cap ti va ev ed ec ad ac now) s.heap.size = A at hD ⊢
  have hA : ∀ q : Nat, s.heap.size ≤ q → A q := fun q h => by rw [← hAe]; exact Or.inr h
  have hS : va_S A s.heap s.heap [] := va_S.rf
  have hx := B.exec
  have hb := B.bytes
  have hr := B.returns
  have hts := atoms_spec (ws := wsX0_writeElements) B.pre
  have hown : s.vm.findClass RX0 = some m.cls := findClass_of_methodNamed B.named
  have hlocks := B.notSynchronized
  have hall := fun (w : Cond) (h : w ∈ allw) => hts w (List.mem_cons_of_mem _ h)
  have hl := lv_entry ([.ref x, .int (nI f)]) (n := 3) (Nat.le_of_ble_eq_true rfl)
  rw [lg_entry_eq]
  generalize (lg_sl ([.ref x, .int (nI f)]) ++ List.replicate (3 - (lg_sl ([.ref x, .int (nI f)])).length) Slot.unset).toArray = ls at hl ⊢
  have hl : lv_has ls 3 [(0, .ref x), (1, .int (nI f))] := hl
  refine lv_iconst (v := 0) hx hb dX0_writeElements_0 (by decide) ?_
  refine tp_i (y := nI 0) nI_0.symm ?_
  refine lv_istore_n (lv' := [(2, .int (nI 0)), (0, .ref x), (1, .int (nI f))]) hx hb dX0_writeElements_1 rfl hl (by decide) rfl (fun ls hl => ?_)
  have hloop : ∀ (n k : Nat) (H : Heap) (locs : List Loc) (ls : Array Slot), k + n = ec → va_P (dC, dI) vwCl [(x, .inr (0, [.int (nI nD), .int (nI nR), .ref a1, .ref a2, .ref a3, .ref a4, .ref a5, .ref a6, .int (nI ec), .ref a7, .int (nI ac), .long now])), (a1, .inl (cJ, nD, .inr (.inl dv))), (a2, .inl (cI, nD + 1, .inl (fun j => nI (r j)))), (a3, .inl (cJ, cap, .inr (.inl (wf_pt ti f (fun i => now + ed i) k)))), (a4, .inl (cJ, cap, .inr (.inl (wf_pt va f ev k)))), (a5, .inl (cJ, 16, .inr (.inl ev))), (a6, .inl (cJ, 16, .inr (.inl ed))), (a7, .inl (cI, nD, .inl ad))] H → va_D A [(x, .inr (0, [.int (nI nD), .int (nI nR), .ref a1, .ref a2, .ref a3, .ref a4, .ref a5, .ref a6, .int (nI ec), .ref a7, .int (nI ac), .long now])), (a1, .inl (cJ, nD, .inr (.inl dv))), (a2, .inl (cI, nD + 1, .inl (fun j => nI (r j)))), (a3, .inl (cJ, cap, .inr (.inl (wf_pt ti f (fun i => now + ed i) k)))), (a4, .inl (cJ, cap, .inr (.inl (wf_pt va f ev k)))), (a5, .inl (cJ, 16, .inr (.inl ev))), (a6, .inl (cJ, 16, .inr (.inl ed))), (a7, .inl (cI, nD, .inl ad))] → va_S A s.heap H locs → lv_has ls 3 [(0, .ref x), (1, .int (nI f)), (2, .int (nI k))] → W p l e (headSpec wsX0_writeElements ({ frames := 0, cells := 0, slots := 0, locals := 0 })).room s m (([.ref x, .int (nI f)] : List Value).toArray) below meth c H locs 0 0 (MQ below (va_Qv (fun _ : Unit => True) (fun _ t9 => va_P (dC, dI) vwCl (wr x a1 a2 a3 a4 a5 a6 a7 cI cJ nD nR dv r cap (wf_pt ti f (fun i => now + ed i) ec) (wf_pt va f ev ec) ev ed ec ad ac now) t9.heap ∧ va_K (dC, dI) vwCl [(cI, .int), (cJ, .long)] t9 ∧ va_D A (wr x a1 a2 a3 a4 a5 a6 a7 cI cJ nD nR dv r cap (wf_pt ti f (fun i => now + ed i) ec) (wf_pt va f ev ec) ev ed ec ad ac now)) A) (([.ref x, .int (nI f)] : List Value).toArray) s 0 0 A) (F0 m 2 ls []) := by
    intro n
    induction n with
    | zero =>
      intro k H locs ls hk hP hD hS hl
      obtain rfl : ec = k := by omega
      refine lv_iload_n hx hb dX0_writeElements_2 rfl (lv_at hl 2 rfl) ?_
      refine lv_aload_n hx hb dX0_writeElements_3 rfl (lv_at hl 0 rfl) ?_
      refine va_get (D := (dC, dI)) (ci := 0) (v := .int (nI ec)) (C := RX0) (T := TX0) (N := 12) hx hb hall inX0 hown hK hP 0 rfl rfl 8 (by decide) (hall _ kw_31) (fun _ h9 => h9) rfl dX0_writeElements_4 ?_
      refine xc_ge (tgt := 49) hx hb (by omega) (by omega) dX0_writeElements_7 (by decide) (fun c_1 => ?_) (fun c_1 => ?_)
      · exact W.vret hx hb hr (fun t9 ht hW => ⟨⟨(), rfl, trivial, by rw [ht]; exact hP, va_K.moved hW.alike hK, hD⟩, hS.F ht⟩) hS.2.2 dX0_writeElements_49
      · exact absurd c_1 (by omega)
    | succ n ih =>
      intro k H locs ls hk hP hD hS hl
      refine lv_iload_n hx hb dX0_writeElements_2 rfl (lv_at hl 2 rfl) ?_
      refine lv_aload_n hx hb dX0_writeElements_3 rfl (lv_at hl 0 rfl) ?_
      refine va_get (D := (dC, dI)) (ci := 0) (v := .int (nI ec)) (C := RX0) (T := TX0) (N := 12) hx hb hall inX0 hown hK hP 0 rfl rfl 8 (by decide) (hall _ kw_31) (fun _ h9 => h9) rfl dX0_writeElements_4 ?_
      refine xc_ge (tgt := 49) hx hb (by omega) (by omega) dX0_writeElements_7 (by decide) (fun c_2 => ?_) (fun c_2 => ?_)
      · exact absurd c_2 (by omega)
      · refine lv_aload_n hx hb dX0_writeElements_10 rfl (lv_at hl 0 rfl) ?_
        refine va_get (D := (dC, dI)) (ci := 0) (v := .ref a3) (C := RX0) (T := TX0) (N := 12) hx hb hall inX0 hown hK hP 0 rfl rfl 4 (by decide) (hall _ kw_27) (fun _ h9 => h9) rfl dX0_writeElements_11 ?_
        refine lv_iload_n hx hb dX0_writeElements_14 rfl (lv_at hl 1 rfl) ?_
        refine lv_iload_n hx hb dX0_writeElements_15 rfl (lv_at hl 2 rfl) ?_
        refine lv_iadd hx hb dX0_writeElements_16 ?_
        refine tp_i (y := nI (f + k)) (nI_add f k) ?_
        refine lv_aload_n hx hb dX0_writeElements_17 rfl (lv_at hl 0 rfl) ?_
        refine va_get (D := (dC, dI)) (ci := 0) (v := .long now) (C := RX0) (T := TX0) (N := 12) hx hb hall inX0 hown hK hP 0 rfl rfl 11 (by decide) (hall _ kw_34) (fun _ h9 => h9) rfl dX0_writeElements_18 ?_
        refine lv_aload_n hx hb dX0_writeElements_21 rfl (lv_at hl 0 rfl) ?_
        refine va_get (D := (dC, dI)) (ci := 0) (v := .ref a6) (C := RX0) (T := TX0) (N := 12) hx hb hall inX0 hown hK hP 0 rfl rfl 7 (by decide) (hall _ kw_30) (fun _ h9 => h9) rfl dX0_writeElements_22 ?_
        refine lv_iload_n hx hb dX0_writeElements_25 rfl (lv_at hl 2 rfl) ?_
        refine xa_lald hx hb hK hP 6 1 rfl rfl (by omega) (by omega) dX0_writeElements_26 ?_
        refine lv_ladd hx hb dX0_writeElements_27 ?_
        refine xa_last hx hb hK hP hD hS 3 1 rfl rfl (by omega) (by omega) dX0_writeElements_28 (fun H locs hP hD hS => ?_)
        have hP : va_P (dC, dI) vwCl [(x, .inr (0, [.int (nI nD), .int (nI nR), .ref a1, .ref a2, .ref a3, .ref a4, .ref a5, .ref a6, .int (nI ec), .ref a7, .int (nI ac), .long now])), (a1, .inl (cJ, nD, .inr (.inl dv))), (a2, .inl (cI, nD + 1, .inl (fun j => nI (r j)))), (a3, .inl (cJ, cap, .inr (.inl (vp_updL (wf_pt ti f (fun i => now + ed i) k) (f + k) (now + (ed k)))))), (a4, .inl (cJ, cap, .inr (.inl (wf_pt va f ev k)))), (a5, .inl (cJ, 16, .inr (.inl ev))), (a6, .inl (cJ, 16, .inr (.inl ed))), (a7, .inl (cI, nD, .inl ad))] H := hP
        have hD : va_D A [(x, .inr (0, [.int (nI nD), .int (nI nR), .ref a1, .ref a2, .ref a3, .ref a4, .ref a5, .ref a6, .int (nI ec), .ref a7, .int (nI ac), .long now])), (a1, .inl (cJ, nD, .inr (.inl dv))), (a2, .inl (cI, nD + 1, .inl (fun j => nI (r j)))), (a3, .inl (cJ, cap, .inr (.inl (vp_updL (wf_pt ti f (fun i => now + ed i) k) (f + k) (now + (ed k)))))), (a4, .inl (cJ, cap, .inr (.inl (wf_pt va f ev k)))), (a5, .inl (cJ, 16, .inr (.inl ev))), (a6, .inl (cJ, 16, .inr (.inl ed))), (a7, .inl (cI, nD, .inl ad))] := hD
        refine lv_aload_n hx hb dX0_writeElements_29 rfl (lv_at hl 0 rfl) ?_
        refine va_get (D := (dC, dI)) (ci := 0) (v := .ref a4) (C := RX0) (T := TX0) (N := 12) hx hb hall inX0 hown hK hP 0 rfl rfl 5 (by decide) (hall _ kw_28) (fun _ h9 => h9) rfl dX0_writeElements_30 ?_
        refine lv_iload_n hx hb dX0_writeElements_33 rfl (lv_at hl 1 rfl) ?_
        refine lv_iload_n hx hb dX0_writeElements_34 rfl (lv_at hl 2 rfl) ?_
        refine lv_iadd hx hb dX0_writeElements_35 ?_
        refine tp_i (y := nI (f + k)) (nI_add f k) ?_
        refine lv_aload_n hx hb dX0_writeElements_36 rfl (lv_at hl 0 rfl) ?_
        refine va_get (D := (dC, dI)) (ci := 0) (v := .ref a5) (C := RX0) (T := TX0) (N := 12) hx hb hall inX0 hown hK hP 0 rfl rfl 6 (by decide) (hall _ kw_29) (fun _ h9 => h9) rfl dX0_writeElements_37 ?_
        refine lv_iload_n hx hb dX0_writeElements_40 rfl (lv_at hl 2 rfl) ?_
        refine xa_lald hx hb hK hP 5 1 rfl rfl (by omega) (by omega) dX0_writeElements_41 ?_
        refine xa_last hx hb hK hP hD hS 4 1 rfl rfl (by omega) (by omega) dX0_writeElements_42 (fun H locs hP hD hS => ?_)
        have hP : va_P (dC, dI) vwCl [(x, .inr (0, [.int (nI nD), .int (nI nR), .ref a1, .ref a2, .ref a3, .ref a4, .ref a5, .ref a6, .int (nI ec), .ref a7, .int (nI ac), .long now])), (a1, .inl (cJ, nD, .inr (.inl dv))), (a2, .inl (cI, nD + 1, .inl (fun j => nI (r j)))), (a3, .inl (cJ, cap, .inr (.inl (vp_updL (wf_pt ti f (fun i => now + ed i) k) (f + k) (now + (ed k)))))), (a4, .inl (cJ, cap, .inr (.inl (vp_updL (wf_pt va f ev k) (f + k) (ev k))))), (a5, .inl (cJ, 16, .inr (.inl ev))), (a6, .inl (cJ, 16, .inr (.inl ed))), (a7, .inl (cI, nD, .inl ad))] H := hP
        have hD : va_D A [(x, .inr (0, [.int (nI nD), .int (nI nR), .ref a1, .ref a2, .ref a3, .ref a4, .ref a5, .ref a6, .int (nI ec), .ref a7, .int (nI ac), .long now])), (a1, .inl (cJ, nD, .inr (.inl dv))), (a2, .inl (cI, nD + 1, .inl (fun j => nI (r j)))), (a3, .inl (cJ, cap, .inr (.inl (vp_updL (wf_pt ti f (fun i => now + ed i) k) (f + k) (now + (ed k)))))), (a4, .inl (cJ, cap, .inr (.inl (vp_updL (wf_pt va f ev k) (f + k) (ev k))))), (a5, .inl (cJ, 16, .inr (.inl ev))), (a6, .inl (cJ, 16, .inr (.inl ed))), (a7, .inl (cI, nD, .inl ad))] := hD
        refine lv_iinc (v := nI (k + 1)) (lv' := [(2, .int (nI (k + 1))), (0, .ref x), (1, .int (nI f))]) hx hb dX0_writeElements_43 hl (k := 2) rfl (nI_1 k) (by decide) rfl (fun ls hl => ?_)
        refine lv_goto (tgt := 2) hx hb dX0_writeElements_46 (by decide) ?_
        exact ih (k + 1) H locs ls (by omega) (by rw [← wf_pt_s, ← wf_pt_s]; exact hP) (by rw [← wf_pt_s, ← wf_pt_s]; exact hD) hS (lv_sub hl [1, 2, 0] rfl)
  exact hloop ec 0 s.heap [] ls (by omega) (by rw [wf_pt_0, wf_pt_0]; exact hP) (by rw [wf_pt_0, wf_pt_0]; exact hD) hS (lv_sub hl [1, 2, 0] rfl)
set_option maxHeartbeats 4000000 in
set_option maxRecDepth 100000 in
theorem c_makePlaces (l : Launch) (dC : Nat → ClassId) (dI : Nat → Nat → Nat) (x a1 a2 a3 a4 a5 a6 a7 : Nat) (cI cJ : ClassId) (nD nR : Nat) (dv : Nat → Int64) (r : Nat → Nat) (cap : Nat) (ti va ev ed : Nat → Int64) (ec : Nat) (ad : Nat → Int32) (ac : Nat) (now : Int64) (q : Nat) (hq : q ≤ cap) (hc : cap ≤ 8192) : Met l yX0_makePlaces wsX0_makePlaces ({ frames := 0, cells := 0, slots := 0, locals := 0 }) (va_Pc [.ref x, .int (nI q)] (fun U => va_P (dC, dI) vwCl (wr x a1 a2 a3 a4 a5 a6 a7 cI cJ nD nR dv r cap ti va ev ed ec ad ac now) U.heap ∧ va_K (dC, dI) vwCl [(cI, .int), (cJ, .long)] U)) (xv_S (True)) 0 0 (fun _ => False) := by
  refine Met.ofW (cc := cX0_makePlaces) (maxL := 3) (ret := none) (by decide) rfl ?_
  intro p e s m args below meth c s₁ B hml hv
  obtain ⟨rfl, hP, hK⟩ := hv
  have hx := B.exec
  have hb := B.bytes
  have hr := B.returns
  have hts := atoms_spec (ws := wsX0_makePlaces) B.pre
  have hown : s.vm.findClass RX0 = some m.cls := findClass_of_methodNamed B.named
  have hlocks := B.notSynchronized
  have hall := fun (w : Cond) (h : w ∈ allw) => hts w (List.mem_cons_of_mem _ h)
  have hl := lv_entry ([.ref x, .int (nI q)]) (n := 3) (Nat.le_of_ble_eq_true rfl)
  rw [lg_entry_eq]
  generalize (lg_sl ([.ref x, .int (nI q)]) ++ List.replicate (3 - (lg_sl ([.ref x, .int (nI q)])).length) Slot.unset).toArray = ls at hl ⊢
  have hl : lv_has ls 3 [(0, .ref x), (1, .int (nI q))] := hl
  refine lv_iload_n hx hb dX0_makePlaces_0 rfl (lv_at hl 1 rfl) ?_
  refine lv_aload_n hx hb dX0_makePlaces_1 rfl (lv_at hl 0 rfl) ?_
  refine va_get (D := (dC, dI)) (ci := 0) (v := .ref a3) (C := RX0) (T := TX0) (N := 12) hx hb hall inX0 hown hK hP 0 rfl rfl 4 (by decide) (hall _ kw_27) (fun _ h9 => h9) rfl dX0_makePlaces_2 ?_
  refine va_alen (v := nI cap) hx hb hK hP 3 1 rfl rfl rfl dX0_makePlaces_5 ?_
  refine xc_gt (tgt := 10) hx hb (by omega) (by omega) dX0_makePlaces_6 (by decide) (fun c_1 => ?_) (fun c_1 => ?_)
  · exact absurd c_1 (by omega)
  · exact W.vret hx hb hr (fun t9 ht hW => ⟨rfl, trivial, ht⟩) (fun q hq => nomatch hq) dX0_makePlaces_9
set_option maxHeartbeats 4000000 in
set_option maxRecDepth 100000 in
theorem c_endRowAt (l : Launch) (dC : Nat → ClassId) (dI : Nat → Nat → Nat) (x a1 a2 a3 a4 a5 a6 a7 : Nat) (cI cJ : ClassId) (nD nR : Nat) (dv : Nat → Int64) (r : Nat → Nat) (cap : Nat) (ti va ev ed : Nat → Int64) (ec : Nat) (ad : Nat → Int32) (ac : Nat) (now : Int64) (sz : Nat) (hI : wf_R nD nR cap ec ac r) (d en : Nat) (hd : d < nD) (hq : r nD + en - r (d + 1) ≤ cap) : Met l yX0_endRowAt wsX0_endRowAt ({ frames := 2, cells := 0, slots := 0, locals := 83 }) (va_Pc [.ref x, .int (nI d), .int (nI en)] (fun U => U.heap.size = sz ∧ va_P (dC, dI) vwCl (wr x a1 a2 a3 a4 a5 a6 a7 cI cJ nD nR dv r cap ti va ev ed ec ad ac now) U.heap ∧ va_K (dC, dI) vwCl [(cI, .int), (cJ, .long)] U ∧ va_D (fun _ => True) (wr x a1 a2 a3 a4 a5 a6 a7 cI cJ nD nR dv r cap ti va ev ed ec ad ac now))) (va_Qv (fun _ : Unit => True) (fun _ t9 => va_P (dC, dI) vwCl (wr x a1 a2 a3 a4 a5 a6 a7 cI cJ nD nR dv (wf_sh r d en (r (d + 1)) (nD + 1)) cap (va_cpy ti ti (r (d + 1)) en (r nD - r (d + 1))) (va_cpy va va (r (d + 1)) en (r nD - r (d + 1))) ev ed ec ad ac now) t9.heap ∧ va_K (dC, dI) vwCl [(cI, .int), (cJ, .long)] t9 ∧ va_D (va_A (wr x a1 a2 a3 a4 a5 a6 a7 cI cJ nD nR dv r cap ti va ev ed ec ad ac now) sz) (wr x a1 a2 a3 a4 a5 a6 a7 cI cJ nD nR dv (wf_sh r d en (r (d + 1)) (nD + 1)) cap (va_cpy ti ti (r (d + 1)) en (r nD - r (d + 1))) (va_cpy va va (r (d + 1)) en (r nD - r (d + 1))) ev ed ec ad ac now)) (va_A (wr x a1 a2 a3 a4 a5 a6 a7 cI cJ nD nR dv r cap ti va ev ed ec ad ac now) sz)) 0 0 (va_A (wr x a1 a2 a3 a4 a5 a6 a7 cI cJ nD nR dv r cap ti va ev ed ec ad ac now) sz) := by
  refine Met.ofW (cc := cX0_endRowAt) (maxL := 7) (ret := none) (by decide) rfl ?_
  intro p e s m args below meth c s₁ B hml hv
  obtain ⟨rfl, hsz, hP, hK, hD0⟩ := hv
  subst hsz
  have hD := hD0.self (sz := s.heap.size)
  generalize hAe : va_A (wr x a1 a2 a3 a4 a5 a6 a7 cI cJ nD nR dv r cap ti va ev ed ec ad ac now) s.heap.size = A at hD ⊢
  have hA : ∀ q : Nat, s.heap.size ≤ q → A q := fun q h => by rw [← hAe]; exact Or.inr h
  have hS : va_S A s.heap s.heap [] := va_S.rf
  have hx := B.exec
  have hb := B.bytes
  have hr := B.returns
  have hts := atoms_spec (ws := wsX0_endRowAt) B.pre
  have hown : s.vm.findClass RX0 = some m.cls := findClass_of_methodNamed B.named
  have hlocks := B.notSynchronized
  have hall := fun (w : Cond) (h : w ∈ allw) => hts w (List.mem_cons_of_mem _ h)
  have hl := lv_entry ([.ref x, .int (nI d), .int (nI en)]) (n := 7) (Nat.le_of_ble_eq_true rfl)
  rw [lg_entry_eq]
  generalize (lg_sl ([.ref x, .int (nI d), .int (nI en)]) ++ List.replicate (7 - (lg_sl ([.ref x, .int (nI d), .int (nI en)])).length) Slot.unset).toArray = ls at hl ⊢
  have hl : lv_has ls 7 [(0, .ref x), (1, .int (nI d)), (2, .int (nI en))] := hl
  have hI0 := hI
  obtain ⟨hnD1, hnD, hnR1, hnR, hcap, hrc, hrR, hr0, hmo, hec, hac⟩ := hI
  have hle := wf_le hmo (show d + 1 ≤ nD by omega) (Nat.le_refl nD)
  refine lv_aload_n hx hb dX0_endRowAt_0 rfl (lv_at hl 0 rfl) ?_
  refine va_get (D := (dC, dI)) (ci := 0) (v := .ref a2) (C := RX0) (T := TX0) (N := 12) hx hb hall inX0 hown hK hP 0 rfl rfl 3 (by decide) (hall _ kw_26) (fun _ h9 => h9) rfl dX0_endRowAt_1 ?_
  refine lv_iload_n hx hb dX0_endRowAt_4 rfl (lv_at hl 1 rfl) ?_
  refine lv_iconst (v := 1) hx hb dX0_endRowAt_5 (by decide) ?_
  refine lv_iadd hx hb dX0_endRowAt_6 ?_
  refine tp_i (y := nI (d + 1)) (nI_1 d) ?_
  refine xa_iald hx hb hK hP 2 0 rfl rfl (by omega) (by omega) dX0_endRowAt_7 ?_
  refine lv_istore_n (lv' := [(3, .int (nI (r (d + 1)))), (0, .ref x), (1, .int (nI d)), (2, .int (nI en))]) hx hb dX0_endRowAt_8 rfl hl (by decide) rfl (fun ls hl => ?_)
  refine lv_aload_n hx hb dX0_endRowAt_9 rfl (lv_at hl 1 rfl) ?_
  refine va_get (D := (dC, dI)) (ci := 0) (v := .ref a2) (C := RX0) (T := TX0) (N := 12) hx hb hall inX0 hown hK hP 0 rfl rfl 3 (by decide) (hall _ kw_26) (fun _ h9 => h9) rfl dX0_endRowAt_10 ?_
  refine lv_aload_n hx hb dX0_endRowAt_13 rfl (lv_at hl 1 rfl) ?_
  refine va_get (D := (dC, dI)) (ci := 0) (v := .int (nI nD)) (C := RX0) (T := TX0) (N := 12) hx hb hall inX0 hown hK hP 0 rfl rfl 0 (by decide) (hall _ kw_23) (fun _ h9 => h9) rfl dX0_endRowAt_14 ?_
  refine xa_iald hx hb hK hP 2 0 rfl rfl (by omega) (by omega) dX0_endRowAt_17 ?_
  refine lv_istore (lv' := [(4, .int (nI (r nD))), (3, .int (nI (r (d + 1)))), (0, .ref x), (1, .int (nI d)), (2, .int (nI en))]) hx hb dX0_endRowAt_18 hl (by decide) rfl (fun ls hl => ?_)
  refine lv_iload_n hx hb dX0_endRowAt_20 rfl (lv_at hl 4 rfl) ?_
  refine lv_iload_n hx hb dX0_endRowAt_21 rfl (lv_at hl 1 rfl) ?_
  refine lv_isub hx hb dX0_endRowAt_22 ?_
  refine lv_istore (lv' := [(5, .int ((nI en) - (nI (r (d + 1))))), (4, .int (nI (r nD))), (3, .int (nI (r (d + 1)))), (0, .ref x), (1, .int (nI d)), (2, .int (nI en))]) hx hb dX0_endRowAt_23 hl (by decide) rfl (fun ls hl => ?_)
  refine lv_aload_n hx hb dX0_endRowAt_25 rfl (lv_at hl 3 rfl) ?_
  refine lv_iload hx hb dX0_endRowAt_26 (lv_at hl 1 rfl) ?_
  refine lv_iload hx hb dX0_endRowAt_28 (lv_at hl 0 rfl) ?_
  refine lv_iadd hx hb dX0_endRowAt_30 ?_
  refine tp_i (y := nI (r nD + en - r (d + 1))) (xs_i (by omega)) ?_
  refine xv_call (W.runV (As := [.int (nI (r nD + en - r (d + 1)))]) (rest := []) ⟨hx, hb, hml, hown, hall⟩ (c_makePlaces l dC dI x a1 a2 a3 a4 a5 a6 a7 cI cJ nD nR dv r cap ti va ev ed ec ad ac now (r nD + en - r (d + 1)) hq hcap) (cwV 1 hall gX0_135 rfl rfl rfl (by decide +kernel) ⟨Nat.le_of_ble_eq_true rfl, Nat.le_of_ble_eq_true rfl⟩) ⟨xr_blind, va_recv hK hP (ci := 0) (q0 := 0) rfl rfl, fun U hU hW => ⟨rfl, by rw [hU]; exact hP, va_K.moved hW.alike hK⟩⟩ rfl rfl hl.1 rfl (lv_room (Nat.le_of_ble_eq_true rfl)) dX0_endRowAt_31 ⟨by first | exact Nat.zero_le _ | omega, by first | exact Nat.zero_le _ | omega⟩) (fun hv_2 => ?_)
  refine lv_aload_n hx hb dX0_endRowAt_34 rfl (lv_at hl 3 rfl) ?_
  refine lv_iload_n hx hb dX0_endRowAt_35 rfl (lv_at hl 2 rfl) ?_
  refine lv_iload_n hx hb dX0_endRowAt_36 rfl (lv_at hl 5 rfl) ?_
  refine lv_iload hx hb dX0_endRowAt_37 (lv_at hl 1 rfl) ?_
  refine lv_iload_n hx hb dX0_endRowAt_39 rfl (lv_at hl 2 rfl) ?_
  refine lv_isub hx hb dX0_endRowAt_40 ?_
  refine tp_i (y := nI (r nD - r (d + 1))) (pk_sub hle) ?_
  have hFc := va_free (wc := [(x, .inr (0, [.int (nI nD), .int (nI nR), .ref a1, .ref a2, .ref a3, .ref a4, .ref a5, .ref a6, .int (nI ec), .ref a7, .int (nI ac), .long now])), (a1, .inl (cJ, nD, .inr (.inl dv))), (a2, .inl (cI, nD + 1, .inl (fun j => nI (r j)))), (a3, .inl (cJ, cap, .inr (.inl ti))), (a4, .inl (cJ, cap, .inr (.inl va))), (a5, .inl (cJ, 16, .inr (.inl ev))), (a6, .inl (cJ, 16, .inr (.inl ed))), (a7, .inl (cI, nD, .inl ad))]) hD hS hA [0, 1, 2, 3, 4, 5, 6, 7] rfl
  refine va_callv (va_runV (As := [.int (nI (r (d + 1))), .int (nI en), .int (nI (r nD - r (d + 1)))]) (rest := []) ⟨hx, hb, hml, hown, hall⟩ (c_moveTransactions l dC dI x a1 a2 a3 a4 a5 a6 a7 cI cJ nD nR dv r cap ti va ev ed ec ad ac now s.heap.size (r (d + 1)) en (r nD - r (d + 1)) (by omega) (by omega) hcap) (cwV 3 hall gX0_95 rfl rfl rfl (by decide +kernel) ⟨Nat.le_of_ble_eq_true rfl, Nat.le_of_ble_eq_true rfl⟩) ⟨xu_blind, va_recv hK hP (ci := 0) (q0 := 0) rfl rfl, fun U hU hW => ⟨rfl, by rw [hU], by rw [hU]; exact hP, va_K.moved hW.alike hK, hD.weaken (fun _ _ _ _ => trivial)⟩⟩ rfl rfl hl.1 rfl (lv_room (Nat.le_of_ble_eq_true rfl)) dX0_endRowAt_41 ⟨Nat.le_of_ble_eq_true rfl, Nat.le_of_ble_eq_true rfl⟩) hS (fun q _ h => hFc q h) hFc (fun u9 t9 H1 locs ht hvm hw hB hz1 hk1 hS => ?_)
  obtain ⟨hP1, hK1, hD1⟩ := hB
  rw [ht] at hP1
  obtain ⟨hP, hD⟩ := va_join (wr := []) (w1 := [(x, .inr (0, [.int (nI nD), .int (nI nR), .ref a1, .ref a2, .ref a3, .ref a4, .ref a5, .ref a6, .int (nI ec), .ref a7, .int (nI ac), .long now])), (a1, .inl (cJ, nD, .inr (.inl dv))), (a2, .inl (cI, nD + 1, .inl (fun j => nI (r j)))), (a3, .inl (cJ, cap, .inr (.inl (va_cpy ti ti (r (d + 1)) en (r nD - r (d + 1)))))), (a4, .inl (cJ, cap, .inr (.inl (va_cpy va va (r (d + 1)) en (r nD - r (d + 1)))))), (a5, .inl (cJ, 16, .inr (.inl ev))), (a6, .inl (cJ, 16, .inr (.inl ed))), (a7, .inl (cI, nD, .inl ad))]) hP hD [0, 1, 2, 3, 4, 5, 6, 7] [] rfl rfl (by decide) (by decide) hk1 hFc hP1 hD1
  generalize H1 = H at hP hS ⊢
  have hP : va_P (dC, dI) vwCl [(x, .inr (0, [.int (nI nD), .int (nI nR), .ref a1, .ref a2, .ref a3, .ref a4, .ref a5, .ref a6, .int (nI ec), .ref a7, .int (nI ac), .long now])), (a1, .inl (cJ, nD, .inr (.inl dv))), (a2, .inl (cI, nD + 1, .inl (fun j => nI (r j)))), (a3, .inl (cJ, cap, .inr (.inl (va_cpy ti ti (r (d + 1)) en (r nD - r (d + 1)))))), (a4, .inl (cJ, cap, .inr (.inl (va_cpy va va (r (d + 1)) en (r nD - r (d + 1)))))), (a5, .inl (cJ, 16, .inr (.inl ev))), (a6, .inl (cJ, 16, .inr (.inl ed))), (a7, .inl (cI, nD, .inl ad))] H := hP
  have hD : va_D A [(x, .inr (0, [.int (nI nD), .int (nI nR), .ref a1, .ref a2, .ref a3, .ref a4, .ref a5, .ref a6, .int (nI ec), .ref a7, .int (nI ac), .long now])), (a1, .inl (cJ, nD, .inr (.inl dv))), (a2, .inl (cI, nD + 1, .inl (fun j => nI (r j)))), (a3, .inl (cJ, cap, .inr (.inl (va_cpy ti ti (r (d + 1)) en (r nD - r (d + 1)))))), (a4, .inl (cJ, cap, .inr (.inl (va_cpy va va (r (d + 1)) en (r nD - r (d + 1)))))), (a5, .inl (cJ, 16, .inr (.inl ev))), (a6, .inl (cJ, 16, .inr (.inl ed))), (a7, .inl (cI, nD, .inl ad))] := hD
  refine lv_iload_n hx hb dX0_endRowAt_44 rfl (lv_at hl 4 rfl) ?_
  refine lv_iconst (v := 1) hx hb dX0_endRowAt_45 (by decide) ?_
  refine lv_iadd hx hb dX0_endRowAt_46 ?_
  refine tp_i (y := nI (d + 1)) (nI_1 d) ?_
  refine lv_istore (lv' := [(6, .int (nI (d + 1))), (5, .int ((nI en) - (nI (r (d + 1))))), (4, .int (nI (r nD))), (3, .int (nI (r (d + 1)))), (0, .ref x), (1, .int (nI d)), (2, .int (nI en))]) hx hb dX0_endRowAt_47 hl (by decide) rfl (fun ls hl => ?_)
  have hloop : ∀ (n k : Nat) (H : Heap) (locs : List Loc) (ls : Array Slot), k + n = nD + 1 → d < k → va_P (dC, dI) vwCl [(x, .inr (0, [.int (nI nD), .int (nI nR), .ref a1, .ref a2, .ref a3, .ref a4, .ref a5, .ref a6, .int (nI ec), .ref a7, .int (nI ac), .long now])), (a1, .inl (cJ, nD, .inr (.inl dv))), (a2, .inl (cI, nD + 1, .inl (fun j => nI ((wf_sh r d en (r (d + 1)) k) j)))), (a3, .inl (cJ, cap, .inr (.inl (va_cpy ti ti (r (d + 1)) en (r nD - r (d + 1)))))), (a4, .inl (cJ, cap, .inr (.inl (va_cpy va va (r (d + 1)) en (r nD - r (d + 1)))))), (a5, .inl (cJ, 16, .inr (.inl ev))), (a6, .inl (cJ, 16, .inr (.inl ed))), (a7, .inl (cI, nD, .inl ad))] H → va_D A [(x, .inr (0, [.int (nI nD), .int (nI nR), .ref a1, .ref a2, .ref a3, .ref a4, .ref a5, .ref a6, .int (nI ec), .ref a7, .int (nI ac), .long now])), (a1, .inl (cJ, nD, .inr (.inl dv))), (a2, .inl (cI, nD + 1, .inl (fun j => nI ((wf_sh r d en (r (d + 1)) k) j)))), (a3, .inl (cJ, cap, .inr (.inl (va_cpy ti ti (r (d + 1)) en (r nD - r (d + 1)))))), (a4, .inl (cJ, cap, .inr (.inl (va_cpy va va (r (d + 1)) en (r nD - r (d + 1)))))), (a5, .inl (cJ, 16, .inr (.inl ev))), (a6, .inl (cJ, 16, .inr (.inl ed))), (a7, .inl (cI, nD, .inl ad))] → va_S A s.heap H locs → lv_has ls 7 [(0, .ref x), (5, .int (nI en - nI (r (d + 1)))), (6, .int (nI k))] → W p l e (headSpec wsX0_endRowAt ({ frames := 2, cells := 0, slots := 0, locals := 83 })).room s m (([.ref x, .int (nI d), .int (nI en)] : List Value).toArray) below meth c H locs 0 0 (MQ below (va_Qv (fun _ : Unit => True) (fun _ t9 => va_P (dC, dI) vwCl (wr x a1 a2 a3 a4 a5 a6 a7 cI cJ nD nR dv (wf_sh r d en (r (d + 1)) (nD + 1)) cap (va_cpy ti ti (r (d + 1)) en (r nD - r (d + 1))) (va_cpy va va (r (d + 1)) en (r nD - r (d + 1))) ev ed ec ad ac now) t9.heap ∧ va_K (dC, dI) vwCl [(cI, .int), (cJ, .long)] t9 ∧ va_D A (wr x a1 a2 a3 a4 a5 a6 a7 cI cJ nD nR dv (wf_sh r d en (r (d + 1)) (nD + 1)) cap (va_cpy ti ti (r (d + 1)) en (r nD - r (d + 1))) (va_cpy va va (r (d + 1)) en (r nD - r (d + 1))) ev ed ec ad ac now)) A) (([.ref x, .int (nI d), .int (nI en)] : List Value).toArray) s 0 0 A) (F0 m 49 ls []) := by
    intro n
    induction n with
    | zero =>
      intro k H locs ls hk hdk hP hD hS hl
      obtain rfl : k = nD + 1 := by omega
      refine lv_iload hx hb dX0_endRowAt_49 (lv_at hl 2 rfl) ?_
      refine lv_aload_n hx hb dX0_endRowAt_51 rfl (lv_at hl 0 rfl) ?_
      refine va_get (D := (dC, dI)) (ci := 0) (v := .int (nI nD)) (C := RX0) (T := TX0) (N := 12) hx hb hall inX0 hown hK hP 0 rfl rfl 0 (by decide) (hall _ kw_23) (fun _ h9 => h9) rfl dX0_endRowAt_52 ?_
      refine xc_gt (tgt := 76) hx hb (by omega) (by omega) dX0_endRowAt_55 (by decide) (fun c_4 => ?_) (fun c_4 => ?_)
      · exact W.vret hx hb hr (fun t9 ht hW => ⟨⟨(), rfl, trivial, by rw [ht]; exact hP, va_K.moved hW.alike hK, hD⟩, hS.F ht⟩) hS.2.2 dX0_endRowAt_76
      · exact absurd c_4 (by omega)
    | succ n ih =>
      intro k H locs ls hk hdk hP hD hS hl
      have hkr := wf_le hmo (show d + 1 ≤ k by omega) (show k ≤ nD by omega)
      have hkn := wf_le hmo (show k ≤ nD by omega) (Nat.le_refl nD)
      refine lv_iload hx hb dX0_endRowAt_49 (lv_at hl 2 rfl) ?_
      refine lv_aload_n hx hb dX0_endRowAt_51 rfl (lv_at hl 0 rfl) ?_
      refine va_get (D := (dC, dI)) (ci := 0) (v := .int (nI nD)) (C := RX0) (T := TX0) (N := 12) hx hb hall inX0 hown hK hP 0 rfl rfl 0 (by decide) (hall _ kw_23) (fun _ h9 => h9) rfl dX0_endRowAt_52 ?_
      refine xc_gt (tgt := 76) hx hb (by omega) (by omega) dX0_endRowAt_55 (by decide) (fun c_5 => ?_) (fun c_5 => ?_)
      · exact absurd c_5 (by omega)
      · refine lv_aload_n hx hb dX0_endRowAt_58 rfl (lv_at hl 0 rfl) ?_
        refine va_get (D := (dC, dI)) (ci := 0) (v := .ref a2) (C := RX0) (T := TX0) (N := 12) hx hb hall inX0 hown hK hP 0 rfl rfl 3 (by decide) (hall _ kw_26) (fun _ h9 => h9) rfl dX0_endRowAt_59 ?_
        refine lv_iload hx hb dX0_endRowAt_62 (lv_at hl 2 rfl) ?_
        refine lv_dup2_11 hx hb dX0_endRowAt_64 rfl rfl ?_
        refine xa_iald hx hb hK hP 2 0 rfl rfl (by omega) (by omega) dX0_endRowAt_65 ?_
        refine tp_i (y := nI (r k)) (by rw [wf_sh_at]) ?_
        refine lv_iload hx hb dX0_endRowAt_66 (lv_at hl 1 rfl) ?_
        refine lv_iadd hx hb dX0_endRowAt_68 ?_
        refine tp_i (y := nI (r k + en - r (d + 1))) (xs_i (by omega)) ?_
        refine xa_iast hx hb hK hP hD hS 2 0 rfl rfl (by omega) (by omega) dX0_endRowAt_69 (fun H locs hP hD hS => ?_)
        have hP : va_P (dC, dI) vwCl [(x, .inr (0, [.int (nI nD), .int (nI nR), .ref a1, .ref a2, .ref a3, .ref a4, .ref a5, .ref a6, .int (nI ec), .ref a7, .int (nI ac), .long now])), (a1, .inl (cJ, nD, .inr (.inl dv))), (a2, .inl (cI, nD + 1, .inl (upd (fun j => nI ((wf_sh r d en (r (d + 1)) k) j)) k (nI (r k + en - r (d + 1)))))), (a3, .inl (cJ, cap, .inr (.inl (va_cpy ti ti (r (d + 1)) en (r nD - r (d + 1)))))), (a4, .inl (cJ, cap, .inr (.inl (va_cpy va va (r (d + 1)) en (r nD - r (d + 1)))))), (a5, .inl (cJ, 16, .inr (.inl ev))), (a6, .inl (cJ, 16, .inr (.inl ed))), (a7, .inl (cI, nD, .inl ad))] H := hP
        have hD : va_D A [(x, .inr (0, [.int (nI nD), .int (nI nR), .ref a1, .ref a2, .ref a3, .ref a4, .ref a5, .ref a6, .int (nI ec), .ref a7, .int (nI ac), .long now])), (a1, .inl (cJ, nD, .inr (.inl dv))), (a2, .inl (cI, nD + 1, .inl (upd (fun j => nI ((wf_sh r d en (r (d + 1)) k) j)) k (nI (r k + en - r (d + 1)))))), (a3, .inl (cJ, cap, .inr (.inl (va_cpy ti ti (r (d + 1)) en (r nD - r (d + 1)))))), (a4, .inl (cJ, cap, .inr (.inl (va_cpy va va (r (d + 1)) en (r nD - r (d + 1)))))), (a5, .inl (cJ, 16, .inr (.inl ev))), (a6, .inl (cJ, 16, .inr (.inl ed))), (a7, .inl (cI, nD, .inl ad))] := hD
        rw [un_nI, wf_sh_s r d en (r (d + 1)) k hdk] at hP hD
        refine lv_iinc (v := nI (k + 1)) (lv' := [(6, .int (nI (k + 1))), (0, .ref x), (5, .int (nI en - nI (r (d + 1))))]) hx hb dX0_endRowAt_70 hl (k := 2) rfl (nI_1 k) (by decide) rfl (fun ls hl => ?_)
        refine lv_goto (tgt := 49) hx hb dX0_endRowAt_73 (by decide) ?_
        exact ih (k + 1) H locs ls (by omega) (by omega) hP hD hS (lv_sub hl [1, 2, 0] rfl)
  exact hloop (nD - d) (d + 1) H locs ls (by omega) (by omega) (by rw [wf_sh_0]; exact hP) (by rw [wf_sh_0]; exact hD) hS (lv_sub hl [4, 1, 0] rfl)
set_option maxHeartbeats 4000000 in
set_option maxRecDepth 100000 in
theorem c_start (l : Launch) (dC : Nat → ClassId) (dI : Nat → Nat → Nat) (x a1 a2 a3 a4 a5 a6 a7 : Nat) (cI cJ : ClassId) (nD nR : Nat) (dv : Nat → Int64) (r : Nat → Nat) (cap : Nat) (ti va ev ed : Nat → Int64) (ec : Nat) (ad : Nat → Int32) (ac : Nat) (now : Int64) (sz : Nat) (hI : wf_R nD nR cap ec ac r) (d : Nat) (t : Int64) (hd : d < nD) : Met l yX0_start wsX0_start ({ frames := 3, cells := 0, slots := 0, locals := 109 }) (va_Pc [.ref x, .int (nI d), .long t] (fun U => U.heap.size = sz ∧ va_P (dC, dI) vwCl (wr x a1 a2 a3 a4 a5 a6 a7 cI cJ nD nR dv r cap ti va ev ed ec ad ac now) U.heap ∧ va_K (dC, dI) vwCl [(cI, .int), (cJ, .long)] U ∧ va_D (fun _ => True) (wr x a1 a2 a3 a4 a5 a6 a7 cI cJ nD nR dv r cap ti va ev ed ec ad ac now))) (va_Qi (fun (v : Int32) (_ : Unit) => v = nI (r (d + 1) - r d)) (fun _ t9 => va_P (dC, dI) vwCl (wr x a1 a2 a3 a4 a5 a6 a7 cI cJ nD nR (vp_updL dv d t) (wf_sh r d (r d) (r (d + 1)) (nD + 1)) cap (va_cpy ti ti (r (d + 1)) (r d) (r nD - r (d + 1))) (va_cpy va va (r (d + 1)) (r d) (r nD - r (d + 1))) ev ed ec ad ac now) t9.heap ∧ va_K (dC, dI) vwCl [(cI, .int), (cJ, .long)] t9 ∧ va_D (va_A (wr x a1 a2 a3 a4 a5 a6 a7 cI cJ nD nR dv r cap ti va ev ed ec ad ac now) sz) (wr x a1 a2 a3 a4 a5 a6 a7 cI cJ nD nR (vp_updL dv d t) (wf_sh r d (r d) (r (d + 1)) (nD + 1)) cap (va_cpy ti ti (r (d + 1)) (r d) (r nD - r (d + 1))) (va_cpy va va (r (d + 1)) (r d) (r nD - r (d + 1))) ev ed ec ad ac now)) (va_A (wr x a1 a2 a3 a4 a5 a6 a7 cI cJ nD nR dv r cap ti va ev ed ec ad ac now) sz)) 0 0 (va_A (wr x a1 a2 a3 a4 a5 a6 a7 cI cJ nD nR dv r cap ti va ev ed ec ad ac now) sz) := by
  refine Met.ofW (cc := cX0_start) (maxL := 5) (ret := (some .int)) (by decide) rfl ?_
  intro p e s m args below meth c s₁ B hml hv
  obtain ⟨rfl, hsz, hP, hK, hD0⟩ := hv
  subst hsz
  have hD := hD0.self (sz := s.heap.size)
  generalize hAe : va_A (wr x a1 a2 a3 a4 a5 a6 a7 cI cJ nD nR dv r cap ti va ev ed ec ad ac now) s.heap.size = A at hD ⊢
  have hA : ∀ q : Nat, s.heap.size ≤ q → A q := fun q h => by rw [← hAe]; exact Or.inr h
  have hS : va_S A s.heap s.heap [] := va_S.rf
  have hx := B.exec
  have hb := B.bytes
  have hr := B.returns
  have hts := atoms_spec (ws := wsX0_start) B.pre
  have hown : s.vm.findClass RX0 = some m.cls := findClass_of_methodNamed B.named
  have hlocks := B.notSynchronized
  have hall := fun (w : Cond) (h : w ∈ allw) => hts w (List.mem_cons_of_mem _ h)
  have hl := lv_entry ([.ref x, .int (nI d), .long t]) (n := 5) (Nat.le_of_ble_eq_true rfl)
  rw [lg_entry_eq]
  generalize (lg_sl ([.ref x, .int (nI d), .long t]) ++ List.replicate (5 - (lg_sl ([.ref x, .int (nI d), .long t])).length) Slot.unset).toArray = ls at hl ⊢
  have hl : lv_has ls 5 [(0, .ref x), (1, .int (nI d)), (2, .long t)] := hl
  have hI0 := hI
  obtain ⟨hnD1, hnD, hnR1, hnR, hcap, hrc, hrR, hr0, hmo, hec, hac⟩ := hI
  have hle := wf_le hmo (show d + 1 ≤ nD by omega) (Nat.le_refl nD)
  have hmd := hmo d hd
  refine lv_aload_n hx hb dX0_start_0 rfl (lv_at hl 0 rfl) ?_
  refine lv_iload_n hx hb dX0_start_1 rfl (lv_at hl 1 rfl) ?_
  refine xv_call (W.runV (As := [.int (nI d)]) (rest := []) ⟨hx, hb, hml, hown, hall⟩ (c_requireDriver l dC dI x a1 a2 a3 a4 a5 a6 a7 cI cJ nD nR dv r cap ti va ev ed ec ad ac now hI0 d hd) (cwV 1 hall gX0_62 rfl rfl rfl (by decide +kernel) ⟨Nat.le_of_ble_eq_true rfl, Nat.le_of_ble_eq_true rfl⟩) ⟨xr_blind, va_recv hK hP (ci := 0) (q0 := 0) rfl rfl, fun U hU hW => ⟨rfl, by rw [hU]; exact hP, va_K.moved hW.alike hK⟩⟩ rfl rfl hl.1 rfl (lv_room (Nat.le_of_ble_eq_true rfl)) dX0_start_2 ⟨by first | exact Nat.zero_le _ | omega, by first | exact Nat.zero_le _ | omega⟩) (fun hv_2 => ?_)
  refine lv_aload_n hx hb dX0_start_5 rfl (lv_at hl 0 rfl) ?_
  refine lv_iload_n hx hb dX0_start_6 rfl (lv_at hl 1 rfl) ?_
  refine vp_callSi (W.runV (As := [.int (nI d)]) (rest := []) ⟨hx, hb, hml, hown, hall⟩ (c_rowLength l dC dI x a1 a2 a3 a4 a5 a6 a7 cI cJ nD nR dv r cap ti va ev ed ec ad ac now hI0 d hd) (cwV 1 hall gX0_106 rfl rfl rfl (by decide +kernel) ⟨Nat.le_of_ble_eq_true rfl, Nat.le_of_ble_eq_true rfl⟩) ⟨xr_blind, va_recv hK hP (ci := 0) (q0 := 0) rfl rfl, fun U hU hW => ⟨rfl, by rw [hU]; exact hP, va_K.moved hW.alike hK⟩⟩ rfl rfl hl.1 rfl (lv_room (Nat.le_of_ble_eq_true rfl)) dX0_start_7 ⟨by first | exact Nat.zero_le _ | omega, by first | exact Nat.zero_le _ | omega⟩) (fun v_3 hv_4 => ?_)
  subst hv_4
  refine lv_istore (lv' := [(4, .int (nI (r (d + 1) - r d))), (0, .ref x), (1, .int (nI d)), (2, .long t)]) hx hb dX0_start_10 hl (by decide) rfl (fun ls hl => ?_)
  refine lv_aload_n hx hb dX0_start_12 rfl (lv_at hl 1 rfl) ?_
  refine va_get (D := (dC, dI)) (ci := 0) (v := .ref a1) (C := RX0) (T := TX0) (N := 12) hx hb hall inX0 hown hK hP 0 rfl rfl 2 (by decide) (hall _ kw_25) (fun _ h9 => h9) rfl dX0_start_13 ?_
  refine lv_iload_n hx hb dX0_start_16 rfl (lv_at hl 2 rfl) ?_
  refine lv_lload_n hx hb dX0_start_17 rfl (lv_at hl 3 rfl) ?_
  refine xa_last hx hb hK hP hD hS 1 1 rfl rfl (by omega) (by omega) dX0_start_18 (fun H locs hP hD hS => ?_)
  have hP : va_P (dC, dI) vwCl [(x, .inr (0, [.int (nI nD), .int (nI nR), .ref a1, .ref a2, .ref a3, .ref a4, .ref a5, .ref a6, .int (nI ec), .ref a7, .int (nI ac), .long now])), (a1, .inl (cJ, nD, .inr (.inl (vp_updL dv d t)))), (a2, .inl (cI, nD + 1, .inl (fun j => nI (r j)))), (a3, .inl (cJ, cap, .inr (.inl ti))), (a4, .inl (cJ, cap, .inr (.inl va))), (a5, .inl (cJ, 16, .inr (.inl ev))), (a6, .inl (cJ, 16, .inr (.inl ed))), (a7, .inl (cI, nD, .inl ad))] H := hP
  have hD : va_D A [(x, .inr (0, [.int (nI nD), .int (nI nR), .ref a1, .ref a2, .ref a3, .ref a4, .ref a5, .ref a6, .int (nI ec), .ref a7, .int (nI ac), .long now])), (a1, .inl (cJ, nD, .inr (.inl (vp_updL dv d t)))), (a2, .inl (cI, nD + 1, .inl (fun j => nI (r j)))), (a3, .inl (cJ, cap, .inr (.inl ti))), (a4, .inl (cJ, cap, .inr (.inl va))), (a5, .inl (cJ, 16, .inr (.inl ev))), (a6, .inl (cJ, 16, .inr (.inl ed))), (a7, .inl (cI, nD, .inl ad))] := hD
  refine lv_aload_n hx hb dX0_start_19 rfl (lv_at hl 1 rfl) ?_
  refine lv_iload_n hx hb dX0_start_20 rfl (lv_at hl 2 rfl) ?_
  refine lv_aload_n hx hb dX0_start_21 rfl (lv_at hl 1 rfl) ?_
  refine va_get (D := (dC, dI)) (ci := 0) (v := .ref a2) (C := RX0) (T := TX0) (N := 12) hx hb hall inX0 hown hK hP 0 rfl rfl 3 (by decide) (hall _ kw_26) (fun _ h9 => h9) rfl dX0_start_22 ?_
  refine lv_iload_n hx hb dX0_start_25 rfl (lv_at hl 2 rfl) ?_
  refine xa_iald hx hb hK hP 2 0 rfl rfl (by omega) (by omega) dX0_start_26 ?_
  have hFc := va_free (wc := [(x, .inr (0, [.int (nI nD), .int (nI nR), .ref a1, .ref a2, .ref a3, .ref a4, .ref a5, .ref a6, .int (nI ec), .ref a7, .int (nI ac), .long now])), (a1, .inl (cJ, nD, .inr (.inl (vp_updL dv d t)))), (a2, .inl (cI, nD + 1, .inl (fun j => nI (r j)))), (a3, .inl (cJ, cap, .inr (.inl ti))), (a4, .inl (cJ, cap, .inr (.inl va))), (a5, .inl (cJ, 16, .inr (.inl ev))), (a6, .inl (cJ, 16, .inr (.inl ed))), (a7, .inl (cI, nD, .inl ad))]) hD hS hA [0, 1, 2, 3, 4, 5, 6, 7] rfl
  refine va_callv (va_runV (As := [.int (nI d), .int (nI (r d))]) (rest := []) ⟨hx, hb, hml, hown, hall⟩ (c_endRowAt l dC dI x a1 a2 a3 a4 a5 a6 a7 cI cJ nD nR (vp_updL dv d t) r cap ti va ev ed ec ad ac now H.size hI0 d (r d) hd (by omega)) (cwV 2 hall gX0_99 rfl rfl rfl (by decide +kernel) ⟨Nat.le_of_ble_eq_true rfl, Nat.le_of_ble_eq_true rfl⟩) ⟨xu_blind, va_recv hK hP (ci := 0) (q0 := 0) rfl rfl, fun U hU hW => ⟨rfl, by rw [hU], by rw [hU]; exact hP, va_K.moved hW.alike hK, hD.weaken (fun _ _ _ _ => trivial)⟩⟩ rfl rfl hl.1 rfl (lv_room (Nat.le_of_ble_eq_true rfl)) dX0_start_27 ⟨Nat.le_of_ble_eq_true rfl, Nat.le_of_ble_eq_true rfl⟩) hS (fun q _ h => hFc q h) hFc (fun u9 t9 H1 locs ht hvm hw hB hz1 hk1 hS => ?_)
  obtain ⟨hP1, hK1, hD1⟩ := hB
  rw [ht] at hP1
  obtain ⟨hP, hD⟩ := va_join (wr := []) (w1 := [(x, .inr (0, [.int (nI nD), .int (nI nR), .ref a1, .ref a2, .ref a3, .ref a4, .ref a5, .ref a6, .int (nI ec), .ref a7, .int (nI ac), .long now])), (a1, .inl (cJ, nD, .inr (.inl (vp_updL dv d t)))), (a2, .inl (cI, nD + 1, .inl (fun j => nI ((wf_sh r d (r d) (r (d + 1)) (nD + 1)) j)))), (a3, .inl (cJ, cap, .inr (.inl (va_cpy ti ti (r (d + 1)) (r d) (r nD - r (d + 1)))))), (a4, .inl (cJ, cap, .inr (.inl (va_cpy va va (r (d + 1)) (r d) (r nD - r (d + 1)))))), (a5, .inl (cJ, 16, .inr (.inl ev))), (a6, .inl (cJ, 16, .inr (.inl ed))), (a7, .inl (cI, nD, .inl ad))]) hP hD [0, 1, 2, 3, 4, 5, 6, 7] [] rfl rfl (by decide) (by decide) hk1 hFc hP1 hD1
  generalize H1 = H at hP hS ⊢
  have hP : va_P (dC, dI) vwCl [(x, .inr (0, [.int (nI nD), .int (nI nR), .ref a1, .ref a2, .ref a3, .ref a4, .ref a5, .ref a6, .int (nI ec), .ref a7, .int (nI ac), .long now])), (a1, .inl (cJ, nD, .inr (.inl (vp_updL dv d t)))), (a2, .inl (cI, nD + 1, .inl (fun j => nI ((wf_sh r d (r d) (r (d + 1)) (nD + 1)) j)))), (a3, .inl (cJ, cap, .inr (.inl (va_cpy ti ti (r (d + 1)) (r d) (r nD - r (d + 1)))))), (a4, .inl (cJ, cap, .inr (.inl (va_cpy va va (r (d + 1)) (r d) (r nD - r (d + 1)))))), (a5, .inl (cJ, 16, .inr (.inl ev))), (a6, .inl (cJ, 16, .inr (.inl ed))), (a7, .inl (cI, nD, .inl ad))] H := hP
  have hD : va_D A [(x, .inr (0, [.int (nI nD), .int (nI nR), .ref a1, .ref a2, .ref a3, .ref a4, .ref a5, .ref a6, .int (nI ec), .ref a7, .int (nI ac), .long now])), (a1, .inl (cJ, nD, .inr (.inl (vp_updL dv d t)))), (a2, .inl (cI, nD + 1, .inl (fun j => nI ((wf_sh r d (r d) (r (d + 1)) (nD + 1)) j)))), (a3, .inl (cJ, cap, .inr (.inl (va_cpy ti ti (r (d + 1)) (r d) (r nD - r (d + 1)))))), (a4, .inl (cJ, cap, .inr (.inl (va_cpy va va (r (d + 1)) (r d) (r nD - r (d + 1)))))), (a5, .inl (cJ, 16, .inr (.inl ev))), (a6, .inl (cJ, 16, .inr (.inl ed))), (a7, .inl (cI, nD, .inl ad))] := hD
  refine lv_iload hx hb dX0_start_30 (lv_at hl 0 rfl) ?_
  exact W.iret (v := nI (r (d + 1) - r d)) hx hb hr (fun t9 ht hW => ⟨⟨nI (r (d + 1) - r d), (), rfl, rfl, by rw [ht]; exact hP, va_K.moved hW.alike hK, hD⟩, hS.F ht⟩) hS.2.2 dX0_start_32
set_option maxHeartbeats 4000000 in
set_option maxRecDepth 100000 in
theorem c_advance (l : Launch) (dC : Nat → ClassId) (dI : Nat → Nat → Nat) (x a1 a2 a3 a4 a5 a6 a7 : Nat) (cI cJ : ClassId) (nD nR : Nat) (dv : Nat → Int64) (r : Nat → Nat) (cap : Nat) (ti va ev ed : Nat → Int64) (ec : Nat) (ad : Nat → Int32) (ac : Nat) (now : Int64) (sz : Nat) (hI : wf_R nD nR cap ec ac r) (t : Int64) (h1 : ¬ t < now) (h2 : ¬ 1152921504606846976 < t) : Met l yX0_advance wsX0_advance ({ frames := 2, cells := 0, slots := 0, locals := 83 }) (va_Pc [.ref x, .long t] (fun U => U.heap.size = sz ∧ va_P (dC, dI) vwCl (wr x a1 a2 a3 a4 a5 a6 a7 cI cJ nD nR dv r cap ti va ev ed ec ad ac now) U.heap ∧ va_K (dC, dI) vwCl [(cI, .int), (cJ, .long)] U ∧ va_D (fun _ => True) (wr x a1 a2 a3 a4 a5 a6 a7 cI cJ nD nR dv r cap ti va ev ed ec ad ac now))) (va_Qi (fun (v : Int32) (u : wf_T) => v = nI (wf_N t r ti nD) ∧ wf_V t r ti va dv nD u.1 u.2.1 u.2.2.1 u.2.2.2.1 u.2.2.2.2) (fun u t9 => va_P (dC, dI) vwCl (wr x a1 a2 a3 a4 a5 a6 a7 cI cJ nD nR u.2.2.2.1 (un u.1 nD (wf_K t r ti nD)) cap u.2.1 u.2.2.1 ev ed ec u.2.2.2.2 (wf_N t r ti nD) t) t9.heap ∧ va_K (dC, dI) vwCl [(cI, .int), (cJ, .long)] t9 ∧ va_D (va_A (wr x a1 a2 a3 a4 a5 a6 a7 cI cJ nD nR dv r cap ti va ev ed ec ad ac now) sz) (wr x a1 a2 a3 a4 a5 a6 a7 cI cJ nD nR u.2.2.2.1 (un u.1 nD (wf_K t r ti nD)) cap u.2.1 u.2.2.1 ev ed ec u.2.2.2.2 (wf_N t r ti nD) t)) (va_A (wr x a1 a2 a3 a4 a5 a6 a7 cI cJ nD nR dv r cap ti va ev ed ec ad ac now) sz)) 0 0 (va_A (wr x a1 a2 a3 a4 a5 a6 a7 cI cJ nD nR dv r cap ti va ev ed ec ad ac now) sz) := by
  refine Met.ofW (cc := cX0_advance) (maxL := 8) (ret := (some .int)) (by decide) rfl ?_
  intro p e s m args below meth c s₁ B hml hv
  obtain ⟨rfl, hsz, hP, hK, hD0⟩ := hv
  subst hsz
  have hD := hD0.self (sz := s.heap.size)
  generalize hAe : va_A (wr x a1 a2 a3 a4 a5 a6 a7 cI cJ nD nR dv r cap ti va ev ed ec ad ac now) s.heap.size = A at hD ⊢
  have hA : ∀ q : Nat, s.heap.size ≤ q → A q := fun q h => by rw [← hAe]; exact Or.inr h
  have hS : va_S A s.heap s.heap [] := va_S.rf
  have hx := B.exec
  have hb := B.bytes
  have hr := B.returns
  have hts := atoms_spec (ws := wsX0_advance) B.pre
  have hown : s.vm.findClass RX0 = some m.cls := findClass_of_methodNamed B.named
  have hlocks := B.notSynchronized
  have hall := fun (w : Cond) (h : w ∈ allw) => hts w (List.mem_cons_of_mem _ h)
  have hl := lv_entry ([.ref x, .long t]) (n := 8) (Nat.le_of_ble_eq_true rfl)
  rw [lg_entry_eq]
  generalize (lg_sl ([.ref x, .long t]) ++ List.replicate (8 - (lg_sl ([.ref x, .long t])).length) Slot.unset).toArray = ls at hl ⊢
  have hl : lv_has ls 8 [(0, .ref x), (1, .long t)] := hl
  obtain ⟨hnD1, hnD, hnR1, hnR, hcap, hrc, hrR, hr0, hmo, hec, hac⟩ := hI
  refine lv_lload_n hx hb dX0_advance_0 rfl (lv_at hl 1 rfl) ?_
  refine lv_aload_n hx hb dX0_advance_1 rfl (lv_at hl 0 rfl) ?_
  refine va_get (D := (dC, dI)) (ci := 0) (v := .long now) (C := RX0) (T := TX0) (N := 12) hx hb hall inX0 hown hK hP 0 rfl rfl 11 (by decide) (hall _ kw_34) (fun _ h9 => h9) rfl dX0_advance_2 ?_
  refine xl_lt (tgt := 17) hx hb dX0_advance_5 dX0_advance_6 (by decide) (fun c_1 => ?_) (fun c_1 => ?_)
  · exact absurd c_1 h1
  · refine lv_lload_n hx hb dX0_advance_9 rfl (lv_at hl 1 rfl) ?_
    refine lv_ldc2 (v := 1152921504606846976) hx hb hown (hall _ kw_102) dX0_advance_10 ?_
    refine xl_le (tgt := 27) hx hb dX0_advance_13 dX0_advance_14 (by decide) (fun c_2 => ?_) (fun c_2 => ?_)
    · refine lv_aload_n hx hb dX0_advance_27 rfl (lv_at hl 0 rfl) ?_
      refine lv_lload_n hx hb dX0_advance_28 rfl (lv_at hl 1 rfl) ?_
      refine va_put (D := (dC, dI)) (ci := 0) (v := .long t) (ty := .long) (C := RX0) (T := TX0) (N := 12) hx hb hall inX0 tyX0 tyX0_ok nmX0 hown hK hP hD hS 0 rfl rfl 11 (by decide) (hall _ kw_34) (fun _ h9 => h9) rfl (by decide +kernel) rfl rfl (Nat.le_of_ble_eq_true rfl) dX0_advance_29 (fun H locs hP hD hS => ?_)
      have hP : va_P (dC, dI) vwCl [(x, .inr (0, [.int (nI nD), .int (nI nR), .ref a1, .ref a2, .ref a3, .ref a4, .ref a5, .ref a6, .int (nI ec), .ref a7, .int (nI ac), .long t])), (a1, .inl (cJ, nD, .inr (.inl dv))), (a2, .inl (cI, nD + 1, .inl (fun j => nI (r j)))), (a3, .inl (cJ, cap, .inr (.inl ti))), (a4, .inl (cJ, cap, .inr (.inl va))), (a5, .inl (cJ, 16, .inr (.inl ev))), (a6, .inl (cJ, 16, .inr (.inl ed))), (a7, .inl (cI, nD, .inl ad))] H := hP
      have hD : va_D A [(x, .inr (0, [.int (nI nD), .int (nI nR), .ref a1, .ref a2, .ref a3, .ref a4, .ref a5, .ref a6, .int (nI ec), .ref a7, .int (nI ac), .long t])), (a1, .inl (cJ, nD, .inr (.inl dv))), (a2, .inl (cI, nD + 1, .inl (fun j => nI (r j)))), (a3, .inl (cJ, cap, .inr (.inl ti))), (a4, .inl (cJ, cap, .inr (.inl va))), (a5, .inl (cJ, 16, .inr (.inl ev))), (a6, .inl (cJ, 16, .inr (.inl ed))), (a7, .inl (cI, nD, .inl ad))] := hD
      refine lv_aload_n hx hb dX0_advance_32 rfl (lv_at hl 0 rfl) ?_
      refine lv_iconst (v := 0) hx hb dX0_advance_33 (by decide) ?_
      refine tp_i (y := nI 0) nI_0.symm ?_
      refine va_put (D := (dC, dI)) (ci := 0) (v := .int (nI 0)) (ty := .int) (C := RX0) (T := TX0) (N := 12) hx hb hall inX0 tyX0 tyX0_ok nmX0 hown hK hP hD hS 0 rfl rfl 10 (by decide) (hall _ kw_33) (fun _ h9 => h9) rfl (by decide +kernel) rfl rfl (Nat.le_of_ble_eq_true rfl) dX0_advance_34 (fun H locs hP hD hS => ?_)
      have hP : va_P (dC, dI) vwCl [(x, .inr (0, [.int (nI nD), .int (nI nR), .ref a1, .ref a2, .ref a3, .ref a4, .ref a5, .ref a6, .int (nI ec), .ref a7, .int (nI 0), .long t])), (a1, .inl (cJ, nD, .inr (.inl dv))), (a2, .inl (cI, nD + 1, .inl (fun j => nI (r j)))), (a3, .inl (cJ, cap, .inr (.inl ti))), (a4, .inl (cJ, cap, .inr (.inl va))), (a5, .inl (cJ, 16, .inr (.inl ev))), (a6, .inl (cJ, 16, .inr (.inl ed))), (a7, .inl (cI, nD, .inl ad))] H := hP
      have hD : va_D A [(x, .inr (0, [.int (nI nD), .int (nI nR), .ref a1, .ref a2, .ref a3, .ref a4, .ref a5, .ref a6, .int (nI ec), .ref a7, .int (nI 0), .long t])), (a1, .inl (cJ, nD, .inr (.inl dv))), (a2, .inl (cI, nD + 1, .inl (fun j => nI (r j)))), (a3, .inl (cJ, cap, .inr (.inl ti))), (a4, .inl (cJ, cap, .inr (.inl va))), (a5, .inl (cJ, 16, .inr (.inl ev))), (a6, .inl (cJ, 16, .inr (.inl ed))), (a7, .inl (cI, nD, .inl ad))] := hD
      refine lv_iconst (v := 0) hx hb dX0_advance_37 (by decide) ?_
      refine tp_i (y := nI 0) nI_0.symm ?_
      refine lv_istore_n (lv' := [(3, .int (nI 0)), (0, .ref x), (1, .long t)]) hx hb dX0_advance_38 rfl hl (by decide) rfl (fun ls hl => ?_)
      refine lv_iconst (v := 0) hx hb dX0_advance_39 (by decide) ?_
      refine tp_i (y := nI 0) nI_0.symm ?_
      refine lv_istore (lv' := [(4, .int (nI 0)), (3, .int (nI 0)), (0, .ref x), (1, .long t)]) hx hb dX0_advance_40 hl (by decide) rfl (fun ls hl => ?_)
      refine lv_iconst (v := 0) hx hb dX0_advance_42 (by decide) ?_
      refine tp_i (y := nI 0) nI_0.symm ?_
      refine lv_istore (lv' := [(5, .int (nI 0)), (4, .int (nI 0)), (3, .int (nI 0)), (0, .ref x), (1, .long t)]) hx hb dX0_advance_43 hl (by decide) rfl (fun ls hl => ?_)
      have hloop : ∀ (n k : Nat) (rc : Nat → Nat) (tc vc dc : Nat → Int64) (adc : Nat → Int32) (H : Heap) (locs : List Loc) (ls : Array Slot), k + n = nD → wf_V t r ti va dv k rc tc vc dc adc → va_P (dC, dI) vwCl [(x, .inr (0, [.int (nI nD), .int (nI nR), .ref a1, .ref a2, .ref a3, .ref a4, .ref a5, .ref a6, .int (nI ec), .ref a7, .int (nI (wf_N t r ti k)), .long t])), (a1, .inl (cJ, nD, .inr (.inl dc))), (a2, .inl (cI, nD + 1, .inl (fun j => nI (rc j)))), (a3, .inl (cJ, cap, .inr (.inl tc))), (a4, .inl (cJ, cap, .inr (.inl vc))), (a5, .inl (cJ, 16, .inr (.inl ev))), (a6, .inl (cJ, 16, .inr (.inl ed))), (a7, .inl (cI, nD, .inl adc))] H → va_D A [(x, .inr (0, [.int (nI nD), .int (nI nR), .ref a1, .ref a2, .ref a3, .ref a4, .ref a5, .ref a6, .int (nI ec), .ref a7, .int (nI (wf_N t r ti k)), .long t])), (a1, .inl (cJ, nD, .inr (.inl dc))), (a2, .inl (cI, nD + 1, .inl (fun j => nI (rc j)))), (a3, .inl (cJ, cap, .inr (.inl tc))), (a4, .inl (cJ, cap, .inr (.inl vc))), (a5, .inl (cJ, 16, .inr (.inl ev))), (a6, .inl (cJ, 16, .inr (.inl ed))), (a7, .inl (cI, nD, .inl adc))] → va_S A s.heap H locs → lv_has ls 8 [(0, .ref x), (1, .long t), (3, .int (nI (r k))), (4, .int (nI (wf_K t r ti k))), (5, .int (nI k))] → W p l e (headSpec wsX0_advance ({ frames := 2, cells := 0, slots := 0, locals := 83 })).room s m (([.ref x, .long t] : List Value).toArray) below meth c H locs 0 0 (MQ below (va_Qi (fun (v : Int32) (u : wf_T) => v = nI (wf_N t r ti nD) ∧ wf_V t r ti va dv nD u.1 u.2.1 u.2.2.1 u.2.2.2.1 u.2.2.2.2) (fun u t9 => va_P (dC, dI) vwCl (wr x a1 a2 a3 a4 a5 a6 a7 cI cJ nD nR u.2.2.2.1 (un u.1 nD (wf_K t r ti nD)) cap u.2.1 u.2.2.1 ev ed ec u.2.2.2.2 (wf_N t r ti nD) t) t9.heap ∧ va_K (dC, dI) vwCl [(cI, .int), (cJ, .long)] t9 ∧ va_D A (wr x a1 a2 a3 a4 a5 a6 a7 cI cJ nD nR u.2.2.2.1 (un u.1 nD (wf_K t r ti nD)) cap u.2.1 u.2.2.1 ev ed ec u.2.2.2.2 (wf_N t r ti nD) t)) A) (([.ref x, .long t] : List Value).toArray) s 0 0 A) (F0 m 45 ls []) := by
        intro n
        induction n with
        | zero =>
          intro k rc tc vc dc adc H locs ls hk hV hP hD hS hl
          obtain rfl : nD = k := by omega
          have hKn := wf_K_le (t := t) (ti := ti) hr0 hmo nD (Nat.le_refl nD)
          refine lv_iload hx hb dX0_advance_45 (lv_at hl 4 rfl) ?_
          refine lv_aload_n hx hb dX0_advance_47 rfl (lv_at hl 0 rfl) ?_
          refine va_get (D := (dC, dI)) (ci := 0) (v := .int (nI nD)) (C := RX0) (T := TX0) (N := 12) hx hb hall inX0 hown hK hP 0 rfl rfl 0 (by decide) (hall _ kw_23) (fun _ h9 => h9) rfl dX0_advance_48 ?_
          refine xc_ge (tgt := 159) hx hb (by omega) (by omega) dX0_advance_51 (by decide) (fun c_3 => ?_) (fun c_3 => ?_)
          · refine lv_aload_n hx hb dX0_advance_159 rfl (lv_at hl 0 rfl) ?_
            refine va_get (D := (dC, dI)) (ci := 0) (v := .ref a2) (C := RX0) (T := TX0) (N := 12) hx hb hall inX0 hown hK hP 0 rfl rfl 3 (by decide) (hall _ kw_26) (fun _ h9 => h9) rfl dX0_advance_160 ?_
            refine lv_aload_n hx hb dX0_advance_163 rfl (lv_at hl 0 rfl) ?_
            refine va_get (D := (dC, dI)) (ci := 0) (v := .int (nI nD)) (C := RX0) (T := TX0) (N := 12) hx hb hall inX0 hown hK hP 0 rfl rfl 0 (by decide) (hall _ kw_23) (fun _ h9 => h9) rfl dX0_advance_164 ?_
            refine lv_iload hx hb dX0_advance_167 (lv_at hl 3 rfl) ?_
            refine xa_iast hx hb hK hP hD hS 2 0 rfl rfl (by omega) (by omega) dX0_advance_169 (fun H locs hP hD hS => ?_)
            have hP : va_P (dC, dI) vwCl [(x, .inr (0, [.int (nI nD), .int (nI nR), .ref a1, .ref a2, .ref a3, .ref a4, .ref a5, .ref a6, .int (nI ec), .ref a7, .int (nI (wf_N t r ti nD)), .long t])), (a1, .inl (cJ, nD, .inr (.inl dc))), (a2, .inl (cI, nD + 1, .inl (upd (fun j => nI (rc j)) nD (nI (wf_K t r ti nD))))), (a3, .inl (cJ, cap, .inr (.inl tc))), (a4, .inl (cJ, cap, .inr (.inl vc))), (a5, .inl (cJ, 16, .inr (.inl ev))), (a6, .inl (cJ, 16, .inr (.inl ed))), (a7, .inl (cI, nD, .inl adc))] H := hP
            have hD : va_D A [(x, .inr (0, [.int (nI nD), .int (nI nR), .ref a1, .ref a2, .ref a3, .ref a4, .ref a5, .ref a6, .int (nI ec), .ref a7, .int (nI (wf_N t r ti nD)), .long t])), (a1, .inl (cJ, nD, .inr (.inl dc))), (a2, .inl (cI, nD + 1, .inl (upd (fun j => nI (rc j)) nD (nI (wf_K t r ti nD))))), (a3, .inl (cJ, cap, .inr (.inl tc))), (a4, .inl (cJ, cap, .inr (.inl vc))), (a5, .inl (cJ, 16, .inr (.inl ev))), (a6, .inl (cJ, 16, .inr (.inl ed))), (a7, .inl (cI, nD, .inl adc))] := hD
            rw [un_nI] at hP hD
            refine lv_aload_n hx hb dX0_advance_170 rfl (lv_at hl 0 rfl) ?_
            refine va_get (D := (dC, dI)) (ci := 0) (v := .int (nI (wf_N t r ti nD))) (C := RX0) (T := TX0) (N := 12) hx hb hall inX0 hown hK hP 0 rfl rfl 10 (by decide) (hall _ kw_33) (fun _ h9 => h9) rfl dX0_advance_171 ?_
            exact W.iret (v := nI (wf_N t r ti nD)) hx hb hr (fun t9 ht hW => ⟨⟨nI (wf_N t r ti nD), (rc, tc, vc, dc, adc), rfl, ⟨rfl, hV⟩, by rw [ht]; exact hP, va_K.moved hW.alike hK, hD⟩, hS.F ht⟩) hS.2.2 dX0_advance_174
          · exact absurd c_3 (by omega)
        | succ n ih =>
          intro k rc tc vc dc adc H locs ls hk hV hP hD hS hl
          have hkd : k < nD := by omega
          have hmd := hmo k hkd
          have hle := wf_le hmo (show k + 1 ≤ nD by omega) (Nat.le_refl nD)
          have hlt := wf_lt_in t r ti k hmd
          have hKk := wf_K_le (t := t) (ti := ti) hr0 hmo k (by omega)
          have hNk := wf_N_le (t := t) (r := r) (ti := ti) k
          refine lv_iload hx hb dX0_advance_45 (lv_at hl 4 rfl) ?_
          refine lv_aload_n hx hb dX0_advance_47 rfl (lv_at hl 0 rfl) ?_
          refine va_get (D := (dC, dI)) (ci := 0) (v := .int (nI nD)) (C := RX0) (T := TX0) (N := 12) hx hb hall inX0 hown hK hP 0 rfl rfl 0 (by decide) (hall _ kw_23) (fun _ h9 => h9) rfl dX0_advance_48 ?_
          refine xc_ge (tgt := 159) hx hb (by omega) (by omega) dX0_advance_51 (by decide) (fun c_4 => ?_) (fun c_4 => ?_)
          · exact absurd c_4 (by omega)
          · refine lv_aload_n hx hb dX0_advance_54 rfl (lv_at hl 0 rfl) ?_
            refine va_get (D := (dC, dI)) (ci := 0) (v := .ref a2) (C := RX0) (T := TX0) (N := 12) hx hb hall inX0 hown hK hP 0 rfl rfl 3 (by decide) (hall _ kw_26) (fun _ h9 => h9) rfl dX0_advance_55 ?_
            refine lv_iload hx hb dX0_advance_58 (lv_at hl 4 rfl) ?_
            refine lv_iconst (v := 1) hx hb dX0_advance_60 (by decide) ?_
            refine lv_iadd hx hb dX0_advance_61 ?_
            refine tp_i (y := nI (k + 1)) (nI_1 k) ?_
            refine xa_iald hx hb hK hP 2 0 rfl rfl (by omega) (by omega) dX0_advance_62 ?_
            refine tp_i (y := nI (r (k + 1))) (by rw [hV.2.1 (k + 1) (by omega)]) ?_
            refine lv_istore (lv' := [(6, .int (nI (r (k + 1)))), (0, .ref x), (1, .long t), (3, .int (nI (r k))), (4, .int (nI (wf_K t r ti k))), (5, .int (nI k))]) hx hb dX0_advance_63 hl (by decide) rfl (fun ls hl => ?_)
            refine lv_aload_n hx hb dX0_advance_65 rfl (lv_at hl 1 rfl) ?_
            refine lv_iload_n hx hb dX0_advance_66 rfl (lv_at hl 3 rfl) ?_
            refine lv_iload hx hb dX0_advance_67 (lv_at hl 0 rfl) ?_
            refine lv_lload_n hx hb dX0_advance_69 rfl (lv_at hl 2 rfl) ?_
            refine vp_callSi (W.runV (As := [.int (nI (r k)), .int (nI (r (k + 1))), .long t]) (rest := []) ⟨hx, hb, hml, hown, hall⟩ (c_firstBehind l dC dI x a1 a2 a3 a4 a5 a6 a7 cI cJ nD nR dc rc cap tc vc ev ed ec adc (wf_N t r ti k) t (r k) (r (k + 1)) t hmd (by omega) hcap) (cwV 3 hall gX0_82 rfl rfl rfl (by decide +kernel) ⟨Nat.le_of_ble_eq_true rfl, Nat.le_of_ble_eq_true rfl⟩) ⟨xr_blind, va_recv hK hP (ci := 0) (q0 := 0) rfl rfl, fun U hU hW => ⟨rfl, by rw [hU]; exact hP, va_K.moved hW.alike hK⟩⟩ rfl rfl hl.1 rfl (lv_room (Nat.le_of_ble_eq_true rfl)) dX0_advance_70 ⟨by first | exact Nat.zero_le _ | omega, by first | exact Nat.zero_le _ | omega⟩) (fun v_5 hv_6 => ?_)
            obtain rfl : v_5 = nI (wf_lt t r ti k) := hv_6.trans (by rw [wf_V_lt hV])
            refine lv_istore (lv' := [(7, .int (nI (wf_lt t r ti k))), (6, .int (nI (r (k + 1)))), (0, .ref x), (1, .long t), (3, .int (nI (r k))), (4, .int (nI (wf_K t r ti k))), (5, .int (nI k))]) hx hb dX0_advance_73 hl (by decide) rfl (fun ls hl => ?_)
            refine lv_iload hx hb dX0_advance_75 (lv_at hl 0 rfl) ?_
            refine lv_iload_n hx hb dX0_advance_77 rfl (lv_at hl 4 rfl) ?_
            refine xc_le (tgt := 118) hx hb (by omega) (by omega) dX0_advance_78 (by decide) (fun c_7 => ?_) (fun c_7 => ?_)
            · have c_A := c_7
              refine lv_aload_n hx hb dX0_advance_118 rfl (lv_at hl 2 rfl) ?_
              refine lv_iload hx hb dX0_advance_119 (lv_at hl 0 rfl) ?_
              refine lv_iload hx hb dX0_advance_121 (lv_at hl 5 rfl) ?_
              refine lv_iload hx hb dX0_advance_123 (lv_at hl 1 rfl) ?_
              refine lv_iload hx hb dX0_advance_125 (lv_at hl 0 rfl) ?_
              refine lv_isub hx hb dX0_advance_127 ?_
              refine tp_i (y := nI (r (k + 1) - wf_lt t r ti k)) (pk_sub hlt.2) ?_
              have hFc := va_free (wc := [(x, .inr (0, [.int (nI nD), .int (nI nR), .ref a1, .ref a2, .ref a3, .ref a4, .ref a5, .ref a6, .int (nI ec), .ref a7, .int (nI (wf_N t r ti k)), .long t])), (a1, .inl (cJ, nD, .inr (.inl dc))), (a2, .inl (cI, nD + 1, .inl (fun j => nI (rc j)))), (a3, .inl (cJ, cap, .inr (.inl tc))), (a4, .inl (cJ, cap, .inr (.inl vc))), (a5, .inl (cJ, 16, .inr (.inl ev))), (a6, .inl (cJ, 16, .inr (.inl ed))), (a7, .inl (cI, nD, .inl adc))]) hD hS hA [0, 1, 2, 3, 4, 5, 6, 7] rfl
              refine va_callv (va_runV (As := [.int (nI (wf_lt t r ti k)), .int (nI (wf_K t r ti k)), .int (nI (r (k + 1) - wf_lt t r ti k))]) (rest := []) ⟨hx, hb, hml, hown, hall⟩ (c_moveTransactions l dC dI x a1 a2 a3 a4 a5 a6 a7 cI cJ nD nR dc rc cap tc vc ev ed ec adc (wf_N t r ti k) t H.size (wf_lt t r ti k) (wf_K t r ti k) (r (k + 1) - wf_lt t r ti k) (by omega) (by omega) hcap) (cwV 3 hall gX0_95 rfl rfl rfl (by decide +kernel) ⟨Nat.le_of_ble_eq_true rfl, Nat.le_of_ble_eq_true rfl⟩) ⟨xu_blind, va_recv hK hP (ci := 0) (q0 := 0) rfl rfl, fun U hU hW => ⟨rfl, by rw [hU], by rw [hU]; exact hP, va_K.moved hW.alike hK, hD.weaken (fun _ _ _ _ => trivial)⟩⟩ rfl rfl hl.1 rfl (lv_room (Nat.le_of_ble_eq_true rfl)) dX0_advance_128 ⟨Nat.le_of_ble_eq_true rfl, Nat.le_of_ble_eq_true rfl⟩) hS (fun q _ h => hFc q h) hFc (fun u9 t9 H1 locs ht hvm hw hB hz1 hk1 hS => ?_)
              obtain ⟨hP1, hK1, hD1⟩ := hB
              rw [ht] at hP1
              obtain ⟨hP, hD⟩ := va_join (wr := []) (w1 := [(x, .inr (0, [.int (nI nD), .int (nI nR), .ref a1, .ref a2, .ref a3, .ref a4, .ref a5, .ref a6, .int (nI ec), .ref a7, .int (nI (wf_N t r ti k)), .long t])), (a1, .inl (cJ, nD, .inr (.inl dc))), (a2, .inl (cI, nD + 1, .inl (fun j => nI (rc j)))), (a3, .inl (cJ, cap, .inr (.inl (va_cpy tc tc (wf_lt t r ti k) (wf_K t r ti k) (r (k + 1) - wf_lt t r ti k))))), (a4, .inl (cJ, cap, .inr (.inl (va_cpy vc vc (wf_lt t r ti k) (wf_K t r ti k) (r (k + 1) - wf_lt t r ti k))))), (a5, .inl (cJ, 16, .inr (.inl ev))), (a6, .inl (cJ, 16, .inr (.inl ed))), (a7, .inl (cI, nD, .inl adc))]) hP hD [0, 1, 2, 3, 4, 5, 6, 7] [] rfl rfl (by decide) (by decide) hk1 hFc hP1 hD1
              generalize H1 = H at hP hS ⊢
              have hP : va_P (dC, dI) vwCl [(x, .inr (0, [.int (nI nD), .int (nI nR), .ref a1, .ref a2, .ref a3, .ref a4, .ref a5, .ref a6, .int (nI ec), .ref a7, .int (nI (wf_N t r ti k)), .long t])), (a1, .inl (cJ, nD, .inr (.inl dc))), (a2, .inl (cI, nD + 1, .inl (fun j => nI (rc j)))), (a3, .inl (cJ, cap, .inr (.inl (va_cpy tc tc (wf_lt t r ti k) (wf_K t r ti k) (r (k + 1) - wf_lt t r ti k))))), (a4, .inl (cJ, cap, .inr (.inl (va_cpy vc vc (wf_lt t r ti k) (wf_K t r ti k) (r (k + 1) - wf_lt t r ti k))))), (a5, .inl (cJ, 16, .inr (.inl ev))), (a6, .inl (cJ, 16, .inr (.inl ed))), (a7, .inl (cI, nD, .inl adc))] H := hP
              have hD : va_D A [(x, .inr (0, [.int (nI nD), .int (nI nR), .ref a1, .ref a2, .ref a3, .ref a4, .ref a5, .ref a6, .int (nI ec), .ref a7, .int (nI (wf_N t r ti k)), .long t])), (a1, .inl (cJ, nD, .inr (.inl dc))), (a2, .inl (cI, nD + 1, .inl (fun j => nI (rc j)))), (a3, .inl (cJ, cap, .inr (.inl (va_cpy tc tc (wf_lt t r ti k) (wf_K t r ti k) (r (k + 1) - wf_lt t r ti k))))), (a4, .inl (cJ, cap, .inr (.inl (va_cpy vc vc (wf_lt t r ti k) (wf_K t r ti k) (r (k + 1) - wf_lt t r ti k))))), (a5, .inl (cJ, 16, .inr (.inl ev))), (a6, .inl (cJ, 16, .inr (.inl ed))), (a7, .inl (cI, nD, .inl adc))] := hD
              refine lv_aload_n hx hb dX0_advance_131 rfl (lv_at hl 2 rfl) ?_
              refine va_get (D := (dC, dI)) (ci := 0) (v := .ref a2) (C := RX0) (T := TX0) (N := 12) hx hb hall inX0 hown hK hP 0 rfl rfl 3 (by decide) (hall _ kw_26) (fun _ h9 => h9) rfl dX0_advance_132 ?_
              refine lv_iload hx hb dX0_advance_135 (lv_at hl 6 rfl) ?_
              refine lv_iload hx hb dX0_advance_137 (lv_at hl 5 rfl) ?_
              refine xa_iast hx hb hK hP hD hS 2 0 rfl rfl (by omega) (by omega) dX0_advance_139 (fun H locs hP hD hS => ?_)
              have hP : va_P (dC, dI) vwCl [(x, .inr (0, [.int (nI nD), .int (nI nR), .ref a1, .ref a2, .ref a3, .ref a4, .ref a5, .ref a6, .int (nI ec), .ref a7, .int (nI (wf_N t r ti k)), .long t])), (a1, .inl (cJ, nD, .inr (.inl dc))), (a2, .inl (cI, nD + 1, .inl (upd (fun j => nI (rc j)) k (nI (wf_K t r ti k))))), (a3, .inl (cJ, cap, .inr (.inl (va_cpy tc tc (wf_lt t r ti k) (wf_K t r ti k) (r (k + 1) - wf_lt t r ti k))))), (a4, .inl (cJ, cap, .inr (.inl (va_cpy vc vc (wf_lt t r ti k) (wf_K t r ti k) (r (k + 1) - wf_lt t r ti k))))), (a5, .inl (cJ, 16, .inr (.inl ev))), (a6, .inl (cJ, 16, .inr (.inl ed))), (a7, .inl (cI, nD, .inl adc))] H := hP
              have hD : va_D A [(x, .inr (0, [.int (nI nD), .int (nI nR), .ref a1, .ref a2, .ref a3, .ref a4, .ref a5, .ref a6, .int (nI ec), .ref a7, .int (nI (wf_N t r ti k)), .long t])), (a1, .inl (cJ, nD, .inr (.inl dc))), (a2, .inl (cI, nD + 1, .inl (upd (fun j => nI (rc j)) k (nI (wf_K t r ti k))))), (a3, .inl (cJ, cap, .inr (.inl (va_cpy tc tc (wf_lt t r ti k) (wf_K t r ti k) (r (k + 1) - wf_lt t r ti k))))), (a4, .inl (cJ, cap, .inr (.inl (va_cpy vc vc (wf_lt t r ti k) (wf_K t r ti k) (r (k + 1) - wf_lt t r ti k))))), (a5, .inl (cJ, 16, .inr (.inl ev))), (a6, .inl (cJ, 16, .inr (.inl ed))), (a7, .inl (cI, nD, .inl adc))] := hD
              rw [un_nI] at hP hD
              refine lv_iload hx hb dX0_advance_140 (lv_at hl 5 rfl) ?_
              refine lv_iload hx hb dX0_advance_142 (lv_at hl 1 rfl) ?_
              refine lv_iload hx hb dX0_advance_144 (lv_at hl 0 rfl) ?_
              refine lv_isub hx hb dX0_advance_146 ?_
              refine tp_i (y := nI (r (k + 1) - wf_lt t r ti k)) (pk_sub hlt.2) ?_
              refine lv_iadd hx hb dX0_advance_147 ?_
              refine tp_i (y := nI (wf_K t r ti k + (r (k + 1) - wf_lt t r ti k))) (nI_add _ _) ?_
              refine lv_istore (lv' := [(4, .int (nI (wf_K t r ti k + (r (k + 1) - wf_lt t r ti k)))), (7, .int (nI (wf_lt t r ti k))), (6, .int (nI (r (k + 1)))), (0, .ref x), (1, .long t), (3, .int (nI (r k))), (5, .int (nI k))]) hx hb dX0_advance_148 hl (by decide) rfl (fun ls hl => ?_)
              refine lv_iload hx hb dX0_advance_150 (lv_at hl 2 rfl) ?_
              refine lv_istore_n (lv' := [(3, .int (nI (r (k + 1)))), (4, .int (nI (wf_K t r ti k + (r (k + 1) - wf_lt t r ti k)))), (7, .int (nI (wf_lt t r ti k))), (6, .int (nI (r (k + 1)))), (0, .ref x), (1, .long t), (5, .int (nI k))]) hx hb dX0_advance_152 rfl hl (by decide) rfl (fun ls hl => ?_)
              refine lv_iinc (v := nI (k + 1)) (lv' := [(5, .int (nI (k + 1))), (3, .int (nI (r (k + 1)))), (4, .int (nI (wf_K t r ti k + (r (k + 1) - wf_lt t r ti k)))), (7, .int (nI (wf_lt t r ti k))), (6, .int (nI (r (k + 1)))), (0, .ref x), (1, .long t)]) hx hb dX0_advance_153 hl (k := 6) rfl (nI_1 k) (by decide) rfl (fun ls hl => ?_)
              refine lv_goto (tgt := 45) hx hb dX0_advance_156 (by decide) ?_
              have hN : wf_N t r ti (k + 1) = wf_N t r ti k := by show wf_N t r ti k + _ = _; rw [if_neg (Nat.not_lt.mpr c_A), Nat.add_zero]
              exact ih (k + 1) _ _ _ _ _ H locs ls (by omega) (wf_V_step hr0 hmo hkd hV (dc' := dc) (ac' := adc) (fun _ _ => rfl) ((hV.2.2.2.2.2.1 k (Nat.le_refl k)).trans (if_neg (Nat.not_lt.mpr c_A)).symm) (fun _ _ => rfl) (fun q => absurd q (Nat.not_lt.mpr c_A))) (by rw [hN]; exact hP) (by rw [hN]; exact hD) hS (lv_sub hl [5, 6, 1, 2, 0] rfl)
            · have c_A := c_7
              refine lv_aload_n hx hb dX0_advance_81 rfl (lv_at hl 2 rfl) ?_
              refine va_get (D := (dC, dI)) (ci := 0) (v := .ref a1) (C := RX0) (T := TX0) (N := 12) hx hb hall inX0 hown hK hP 0 rfl rfl 2 (by decide) (hall _ kw_25) (fun _ h9 => h9) rfl dX0_advance_82 ?_
              refine lv_iload hx hb dX0_advance_85 (lv_at hl 6 rfl) ?_
              refine lv_aload_n hx hb dX0_advance_87 rfl (lv_at hl 2 rfl) ?_
              refine va_get (D := (dC, dI)) (ci := 0) (v := .ref a4) (C := RX0) (T := TX0) (N := 12) hx hb hall inX0 hown hK hP 0 rfl rfl 5 (by decide) (hall _ kw_28) (fun _ h9 => h9) rfl dX0_advance_88 ?_
              refine lv_iload hx hb dX0_advance_91 (lv_at hl 0 rfl) ?_
              refine lv_iconst (v := 1) hx hb dX0_advance_93 (by decide) ?_
              refine lv_isub hx hb dX0_advance_94 ?_
              refine tp_i (y := nI (wf_lt t r ti k - 1)) (by rw [show wf_lt t r ti k = (wf_lt t r ti k - 1) + 1 by omega]; exact nI_pred _) ?_
              refine xa_lald hx hb hK hP 4 1 rfl rfl (by omega) (by omega) dX0_advance_95 ?_
              refine xa_last hx hb hK hP hD hS 1 1 rfl rfl (by omega) (by omega) dX0_advance_96 (fun H locs hP hD hS => ?_)
              have hP : va_P (dC, dI) vwCl [(x, .inr (0, [.int (nI nD), .int (nI nR), .ref a1, .ref a2, .ref a3, .ref a4, .ref a5, .ref a6, .int (nI ec), .ref a7, .int (nI (wf_N t r ti k)), .long t])), (a1, .inl (cJ, nD, .inr (.inl (vp_updL dc k (vc (wf_lt t r ti k - 1)))))), (a2, .inl (cI, nD + 1, .inl (fun j => nI (rc j)))), (a3, .inl (cJ, cap, .inr (.inl tc))), (a4, .inl (cJ, cap, .inr (.inl vc))), (a5, .inl (cJ, 16, .inr (.inl ev))), (a6, .inl (cJ, 16, .inr (.inl ed))), (a7, .inl (cI, nD, .inl adc))] H := hP
              have hD : va_D A [(x, .inr (0, [.int (nI nD), .int (nI nR), .ref a1, .ref a2, .ref a3, .ref a4, .ref a5, .ref a6, .int (nI ec), .ref a7, .int (nI (wf_N t r ti k)), .long t])), (a1, .inl (cJ, nD, .inr (.inl (vp_updL dc k (vc (wf_lt t r ti k - 1)))))), (a2, .inl (cI, nD + 1, .inl (fun j => nI (rc j)))), (a3, .inl (cJ, cap, .inr (.inl tc))), (a4, .inl (cJ, cap, .inr (.inl vc))), (a5, .inl (cJ, 16, .inr (.inl ev))), (a6, .inl (cJ, 16, .inr (.inl ed))), (a7, .inl (cI, nD, .inl adc))] := hD
              refine lv_aload_n hx hb dX0_advance_97 rfl (lv_at hl 2 rfl) ?_
              refine va_get (D := (dC, dI)) (ci := 0) (v := .ref a7) (C := RX0) (T := TX0) (N := 12) hx hb hall inX0 hown hK hP 0 rfl rfl 9 (by decide) (hall _ kw_32) (fun _ h9 => h9) rfl dX0_advance_98 ?_
              refine lv_aload_n hx hb dX0_advance_101 rfl (lv_at hl 2 rfl) ?_
              refine va_get (D := (dC, dI)) (ci := 0) (v := .int (nI (wf_N t r ti k))) (C := RX0) (T := TX0) (N := 12) hx hb hall inX0 hown hK hP 0 rfl rfl 10 (by decide) (hall _ kw_33) (fun _ h9 => h9) rfl dX0_advance_102 ?_
              refine lv_iload hx hb dX0_advance_105 (lv_at hl 6 rfl) ?_
              refine xa_iast hx hb hK hP hD hS 7 0 rfl rfl (by omega) (by omega) dX0_advance_107 (fun H locs hP hD hS => ?_)
              have hP : va_P (dC, dI) vwCl [(x, .inr (0, [.int (nI nD), .int (nI nR), .ref a1, .ref a2, .ref a3, .ref a4, .ref a5, .ref a6, .int (nI ec), .ref a7, .int (nI (wf_N t r ti k)), .long t])), (a1, .inl (cJ, nD, .inr (.inl (vp_updL dc k (vc (wf_lt t r ti k - 1)))))), (a2, .inl (cI, nD + 1, .inl (fun j => nI (rc j)))), (a3, .inl (cJ, cap, .inr (.inl tc))), (a4, .inl (cJ, cap, .inr (.inl vc))), (a5, .inl (cJ, 16, .inr (.inl ev))), (a6, .inl (cJ, 16, .inr (.inl ed))), (a7, .inl (cI, nD, .inl (upd adc (wf_N t r ti k) (nI k))))] H := hP
              have hD : va_D A [(x, .inr (0, [.int (nI nD), .int (nI nR), .ref a1, .ref a2, .ref a3, .ref a4, .ref a5, .ref a6, .int (nI ec), .ref a7, .int (nI (wf_N t r ti k)), .long t])), (a1, .inl (cJ, nD, .inr (.inl (vp_updL dc k (vc (wf_lt t r ti k - 1)))))), (a2, .inl (cI, nD + 1, .inl (fun j => nI (rc j)))), (a3, .inl (cJ, cap, .inr (.inl tc))), (a4, .inl (cJ, cap, .inr (.inl vc))), (a5, .inl (cJ, 16, .inr (.inl ev))), (a6, .inl (cJ, 16, .inr (.inl ed))), (a7, .inl (cI, nD, .inl (upd adc (wf_N t r ti k) (nI k))))] := hD
              refine lv_aload_n hx hb dX0_advance_108 rfl (lv_at hl 2 rfl) ?_
              refine lv_dup hx hb dX0_advance_109 rfl ?_
              refine va_get (D := (dC, dI)) (ci := 0) (v := .int (nI (wf_N t r ti k))) (C := RX0) (T := TX0) (N := 12) hx hb hall inX0 hown hK hP 0 rfl rfl 10 (by decide) (hall _ kw_33) (fun _ h9 => h9) rfl dX0_advance_110 ?_
              refine lv_iconst (v := 1) hx hb dX0_advance_113 (by decide) ?_
              refine lv_iadd hx hb dX0_advance_114 ?_
              refine tp_i (y := nI (wf_N t r ti k + 1)) (nI_1 _) ?_
              refine va_put (D := (dC, dI)) (ci := 0) (v := .int (nI (wf_N t r ti k + 1))) (ty := .int) (C := RX0) (T := TX0) (N := 12) hx hb hall inX0 tyX0 tyX0_ok nmX0 hown hK hP hD hS 0 rfl rfl 10 (by decide) (hall _ kw_33) (fun _ h9 => h9) rfl (by decide +kernel) rfl rfl (Nat.le_of_ble_eq_true rfl) dX0_advance_115 (fun H locs hP hD hS => ?_)
              have hP : va_P (dC, dI) vwCl [(x, .inr (0, [.int (nI nD), .int (nI nR), .ref a1, .ref a2, .ref a3, .ref a4, .ref a5, .ref a6, .int (nI ec), .ref a7, .int (nI (wf_N t r ti k + 1)), .long t])), (a1, .inl (cJ, nD, .inr (.inl (vp_updL dc k (vc (wf_lt t r ti k - 1)))))), (a2, .inl (cI, nD + 1, .inl (fun j => nI (rc j)))), (a3, .inl (cJ, cap, .inr (.inl tc))), (a4, .inl (cJ, cap, .inr (.inl vc))), (a5, .inl (cJ, 16, .inr (.inl ev))), (a6, .inl (cJ, 16, .inr (.inl ed))), (a7, .inl (cI, nD, .inl (upd adc (wf_N t r ti k) (nI k))))] H := hP
              have hD : va_D A [(x, .inr (0, [.int (nI nD), .int (nI nR), .ref a1, .ref a2, .ref a3, .ref a4, .ref a5, .ref a6, .int (nI ec), .ref a7, .int (nI (wf_N t r ti k + 1)), .long t])), (a1, .inl (cJ, nD, .inr (.inl (vp_updL dc k (vc (wf_lt t r ti k - 1)))))), (a2, .inl (cI, nD + 1, .inl (fun j => nI (rc j)))), (a3, .inl (cJ, cap, .inr (.inl tc))), (a4, .inl (cJ, cap, .inr (.inl vc))), (a5, .inl (cJ, 16, .inr (.inl ev))), (a6, .inl (cJ, 16, .inr (.inl ed))), (a7, .inl (cI, nD, .inl (upd adc (wf_N t r ti k) (nI k))))] := hD
              refine lv_aload_n hx hb dX0_advance_118 rfl (lv_at hl 2 rfl) ?_
              refine lv_iload hx hb dX0_advance_119 (lv_at hl 0 rfl) ?_
              refine lv_iload hx hb dX0_advance_121 (lv_at hl 5 rfl) ?_
              refine lv_iload hx hb dX0_advance_123 (lv_at hl 1 rfl) ?_
              refine lv_iload hx hb dX0_advance_125 (lv_at hl 0 rfl) ?_
              refine lv_isub hx hb dX0_advance_127 ?_
              refine tp_i (y := nI (r (k + 1) - wf_lt t r ti k)) (pk_sub hlt.2) ?_
              have hFc := va_free (wc := [(x, .inr (0, [.int (nI nD), .int (nI nR), .ref a1, .ref a2, .ref a3, .ref a4, .ref a5, .ref a6, .int (nI ec), .ref a7, .int (nI (wf_N t r ti k + 1)), .long t])), (a1, .inl (cJ, nD, .inr (.inl (vp_updL dc k (vc (wf_lt t r ti k - 1)))))), (a2, .inl (cI, nD + 1, .inl (fun j => nI (rc j)))), (a3, .inl (cJ, cap, .inr (.inl tc))), (a4, .inl (cJ, cap, .inr (.inl vc))), (a5, .inl (cJ, 16, .inr (.inl ev))), (a6, .inl (cJ, 16, .inr (.inl ed))), (a7, .inl (cI, nD, .inl (upd adc (wf_N t r ti k) (nI k))))]) hD hS hA [0, 1, 2, 3, 4, 5, 6, 7] rfl
              refine va_callv (va_runV (As := [.int (nI (wf_lt t r ti k)), .int (nI (wf_K t r ti k)), .int (nI (r (k + 1) - wf_lt t r ti k))]) (rest := []) ⟨hx, hb, hml, hown, hall⟩ (c_moveTransactions l dC dI x a1 a2 a3 a4 a5 a6 a7 cI cJ nD nR (vp_updL dc k (vc (wf_lt t r ti k - 1))) rc cap tc vc ev ed ec (upd adc (wf_N t r ti k) (nI k)) (wf_N t r ti k + 1) t H.size (wf_lt t r ti k) (wf_K t r ti k) (r (k + 1) - wf_lt t r ti k) (by omega) (by omega) hcap) (cwV 3 hall gX0_95 rfl rfl rfl (by decide +kernel) ⟨Nat.le_of_ble_eq_true rfl, Nat.le_of_ble_eq_true rfl⟩) ⟨xu_blind, va_recv hK hP (ci := 0) (q0 := 0) rfl rfl, fun U hU hW => ⟨rfl, by rw [hU], by rw [hU]; exact hP, va_K.moved hW.alike hK, hD.weaken (fun _ _ _ _ => trivial)⟩⟩ rfl rfl hl.1 rfl (lv_room (Nat.le_of_ble_eq_true rfl)) dX0_advance_128 ⟨Nat.le_of_ble_eq_true rfl, Nat.le_of_ble_eq_true rfl⟩) hS (fun q _ h => hFc q h) hFc (fun u9 t9 H1 locs ht hvm hw hB hz1 hk1 hS => ?_)
              obtain ⟨hP1, hK1, hD1⟩ := hB
              rw [ht] at hP1
              obtain ⟨hP, hD⟩ := va_join (wr := []) (w1 := [(x, .inr (0, [.int (nI nD), .int (nI nR), .ref a1, .ref a2, .ref a3, .ref a4, .ref a5, .ref a6, .int (nI ec), .ref a7, .int (nI (wf_N t r ti k + 1)), .long t])), (a1, .inl (cJ, nD, .inr (.inl (vp_updL dc k (vc (wf_lt t r ti k - 1)))))), (a2, .inl (cI, nD + 1, .inl (fun j => nI (rc j)))), (a3, .inl (cJ, cap, .inr (.inl (va_cpy tc tc (wf_lt t r ti k) (wf_K t r ti k) (r (k + 1) - wf_lt t r ti k))))), (a4, .inl (cJ, cap, .inr (.inl (va_cpy vc vc (wf_lt t r ti k) (wf_K t r ti k) (r (k + 1) - wf_lt t r ti k))))), (a5, .inl (cJ, 16, .inr (.inl ev))), (a6, .inl (cJ, 16, .inr (.inl ed))), (a7, .inl (cI, nD, .inl (upd adc (wf_N t r ti k) (nI k))))]) hP hD [0, 1, 2, 3, 4, 5, 6, 7] [] rfl rfl (by decide) (by decide) hk1 hFc hP1 hD1
              generalize H1 = H at hP hS ⊢
              have hP : va_P (dC, dI) vwCl [(x, .inr (0, [.int (nI nD), .int (nI nR), .ref a1, .ref a2, .ref a3, .ref a4, .ref a5, .ref a6, .int (nI ec), .ref a7, .int (nI (wf_N t r ti k + 1)), .long t])), (a1, .inl (cJ, nD, .inr (.inl (vp_updL dc k (vc (wf_lt t r ti k - 1)))))), (a2, .inl (cI, nD + 1, .inl (fun j => nI (rc j)))), (a3, .inl (cJ, cap, .inr (.inl (va_cpy tc tc (wf_lt t r ti k) (wf_K t r ti k) (r (k + 1) - wf_lt t r ti k))))), (a4, .inl (cJ, cap, .inr (.inl (va_cpy vc vc (wf_lt t r ti k) (wf_K t r ti k) (r (k + 1) - wf_lt t r ti k))))), (a5, .inl (cJ, 16, .inr (.inl ev))), (a6, .inl (cJ, 16, .inr (.inl ed))), (a7, .inl (cI, nD, .inl (upd adc (wf_N t r ti k) (nI k))))] H := hP
              have hD : va_D A [(x, .inr (0, [.int (nI nD), .int (nI nR), .ref a1, .ref a2, .ref a3, .ref a4, .ref a5, .ref a6, .int (nI ec), .ref a7, .int (nI (wf_N t r ti k + 1)), .long t])), (a1, .inl (cJ, nD, .inr (.inl (vp_updL dc k (vc (wf_lt t r ti k - 1)))))), (a2, .inl (cI, nD + 1, .inl (fun j => nI (rc j)))), (a3, .inl (cJ, cap, .inr (.inl (va_cpy tc tc (wf_lt t r ti k) (wf_K t r ti k) (r (k + 1) - wf_lt t r ti k))))), (a4, .inl (cJ, cap, .inr (.inl (va_cpy vc vc (wf_lt t r ti k) (wf_K t r ti k) (r (k + 1) - wf_lt t r ti k))))), (a5, .inl (cJ, 16, .inr (.inl ev))), (a6, .inl (cJ, 16, .inr (.inl ed))), (a7, .inl (cI, nD, .inl (upd adc (wf_N t r ti k) (nI k))))] := hD
              refine lv_aload_n hx hb dX0_advance_131 rfl (lv_at hl 2 rfl) ?_
              refine va_get (D := (dC, dI)) (ci := 0) (v := .ref a2) (C := RX0) (T := TX0) (N := 12) hx hb hall inX0 hown hK hP 0 rfl rfl 3 (by decide) (hall _ kw_26) (fun _ h9 => h9) rfl dX0_advance_132 ?_
              refine lv_iload hx hb dX0_advance_135 (lv_at hl 6 rfl) ?_
              refine lv_iload hx hb dX0_advance_137 (lv_at hl 5 rfl) ?_
              refine xa_iast hx hb hK hP hD hS 2 0 rfl rfl (by omega) (by omega) dX0_advance_139 (fun H locs hP hD hS => ?_)
              have hP : va_P (dC, dI) vwCl [(x, .inr (0, [.int (nI nD), .int (nI nR), .ref a1, .ref a2, .ref a3, .ref a4, .ref a5, .ref a6, .int (nI ec), .ref a7, .int (nI (wf_N t r ti k + 1)), .long t])), (a1, .inl (cJ, nD, .inr (.inl (vp_updL dc k (vc (wf_lt t r ti k - 1)))))), (a2, .inl (cI, nD + 1, .inl (upd (fun j => nI (rc j)) k (nI (wf_K t r ti k))))), (a3, .inl (cJ, cap, .inr (.inl (va_cpy tc tc (wf_lt t r ti k) (wf_K t r ti k) (r (k + 1) - wf_lt t r ti k))))), (a4, .inl (cJ, cap, .inr (.inl (va_cpy vc vc (wf_lt t r ti k) (wf_K t r ti k) (r (k + 1) - wf_lt t r ti k))))), (a5, .inl (cJ, 16, .inr (.inl ev))), (a6, .inl (cJ, 16, .inr (.inl ed))), (a7, .inl (cI, nD, .inl (upd adc (wf_N t r ti k) (nI k))))] H := hP
              have hD : va_D A [(x, .inr (0, [.int (nI nD), .int (nI nR), .ref a1, .ref a2, .ref a3, .ref a4, .ref a5, .ref a6, .int (nI ec), .ref a7, .int (nI (wf_N t r ti k + 1)), .long t])), (a1, .inl (cJ, nD, .inr (.inl (vp_updL dc k (vc (wf_lt t r ti k - 1)))))), (a2, .inl (cI, nD + 1, .inl (upd (fun j => nI (rc j)) k (nI (wf_K t r ti k))))), (a3, .inl (cJ, cap, .inr (.inl (va_cpy tc tc (wf_lt t r ti k) (wf_K t r ti k) (r (k + 1) - wf_lt t r ti k))))), (a4, .inl (cJ, cap, .inr (.inl (va_cpy vc vc (wf_lt t r ti k) (wf_K t r ti k) (r (k + 1) - wf_lt t r ti k))))), (a5, .inl (cJ, 16, .inr (.inl ev))), (a6, .inl (cJ, 16, .inr (.inl ed))), (a7, .inl (cI, nD, .inl (upd adc (wf_N t r ti k) (nI k))))] := hD
              rw [un_nI] at hP hD
              refine lv_iload hx hb dX0_advance_140 (lv_at hl 5 rfl) ?_
              refine lv_iload hx hb dX0_advance_142 (lv_at hl 1 rfl) ?_
              refine lv_iload hx hb dX0_advance_144 (lv_at hl 0 rfl) ?_
              refine lv_isub hx hb dX0_advance_146 ?_
              refine tp_i (y := nI (r (k + 1) - wf_lt t r ti k)) (pk_sub hlt.2) ?_
              refine lv_iadd hx hb dX0_advance_147 ?_
              refine tp_i (y := nI (wf_K t r ti k + (r (k + 1) - wf_lt t r ti k))) (nI_add _ _) ?_
              refine lv_istore (lv' := [(4, .int (nI (wf_K t r ti k + (r (k + 1) - wf_lt t r ti k)))), (7, .int (nI (wf_lt t r ti k))), (6, .int (nI (r (k + 1)))), (0, .ref x), (1, .long t), (3, .int (nI (r k))), (5, .int (nI k))]) hx hb dX0_advance_148 hl (by decide) rfl (fun ls hl => ?_)
              refine lv_iload hx hb dX0_advance_150 (lv_at hl 2 rfl) ?_
              refine lv_istore_n (lv' := [(3, .int (nI (r (k + 1)))), (4, .int (nI (wf_K t r ti k + (r (k + 1) - wf_lt t r ti k)))), (7, .int (nI (wf_lt t r ti k))), (6, .int (nI (r (k + 1)))), (0, .ref x), (1, .long t), (5, .int (nI k))]) hx hb dX0_advance_152 rfl hl (by decide) rfl (fun ls hl => ?_)
              refine lv_iinc (v := nI (k + 1)) (lv' := [(5, .int (nI (k + 1))), (3, .int (nI (r (k + 1)))), (4, .int (nI (wf_K t r ti k + (r (k + 1) - wf_lt t r ti k)))), (7, .int (nI (wf_lt t r ti k))), (6, .int (nI (r (k + 1)))), (0, .ref x), (1, .long t)]) hx hb dX0_advance_153 hl (k := 6) rfl (nI_1 k) (by decide) rfl (fun ls hl => ?_)
              refine lv_goto (tgt := 45) hx hb dX0_advance_156 (by decide) ?_
              have hN : wf_N t r ti (k + 1) = wf_N t r ti k + 1 := by show wf_N t r ti k + _ = _; rw [if_pos c_A]
              exact ih (k + 1) _ _ _ _ _ H locs ls (by omega) (wf_V_step hr0 hmo hkd hV (dc' := vp_updL dc k (vc (wf_lt t r ti k - 1))) (ac' := upd adc (wf_N t r ti k) (nI k)) (fun j hj => pk_uLn hj) (pk_uLs.trans (((hV.2.2.2.1 _ (by omega)).2).trans (if_pos c_A).symm)) (fun j hj => pk_un (by omega)) (fun _ => pk_us)) (by rw [hN]; exact hP) (by rw [hN]; exact hD) hS (lv_sub hl [5, 6, 1, 2, 0] rfl)
      exact hloop nD 0 r ti va dv ad H locs ls (by omega) (wf_V_0 t r ti va dv ad) hP hD hS (by rw [hr0]; exact lv_sub hl [3, 4, 2, 1, 0] rfl)
    · exact absurd (Int64.not_le.mp c_2) h2
set_option maxHeartbeats 4000000 in
set_option maxRecDepth 100000 in
theorem x_assign4 (l : Launch) (dC : Nat → ClassId) (dI : Nat → Nat → Nat) (x a1 a2 a3 a4 a5 a6 a7 : Nat) (cI cJ : ClassId) (nD nR : Nat) (dv : Nat → Int64) (r : Nat → Nat) (cap : Nat) (ti va ev ed : Nat → Int64) (ec : Nat) (ad : Nat → Int32) (ac : Nat) (now : Int64) (hst : l.stackTraces = false) (hI : wf_R nD nR cap ec ac r) (d : Nat) (mo : Int32) (t : Int64) (hd : d < nD) (hz : 0 < ec) (hg : wf_lg mo (ed 0) t ∧ wf_dg ed now ec 0 (-1)) (cut pl sm : Nat) (hcut : cut = wf_fb ti (now + ed 0 - 1) (r (d + 1) - r d) (r d)) (hpl : pl = wf_fb ti (now + ed 0 - wf_lim mo (ed 0) t - 1) (cut - r d) (r d)) (hsm : sm = wf_ss va (ev 0) pl (cut - pl)) (hbad : nR < r nD - (sm - pl + (r (d + 1) - cut)) + ec) : xt_Met l yX0_assign wsX0_assign ({ frames := 6, cells := 1, slots := 6, locals := 82 }) (va_Pc [.ref x, .int (nI d), .int mo, .long t] (fun U => va_P (dC, dI) vwCl (wr x a1 a2 a3 a4 a5 a6 a7 cI cJ nD nR dv r cap ti va ev ed ec ad ac now) U.heap ∧ va_K (dC, dI) vwCl [(cI, .int), (cJ, .long)] U ∧ xt_ok U)) "java/lang/IllegalStateException" := by
  refine xt_ofW (cc := cX0_assign) (maxL := 14) (ret := (some .int)) (by decide) rfl ?_
  intro p e s m args below meth c s₁ B hml hout hv
  obtain ⟨rfl, hP, hK, hok⟩ := hv
  have hx := B.exec
  have hb := B.bytes
  have hr := B.returns
  have hts := atoms_spec (ws := wsX0_assign) B.pre
  have hown : s.vm.findClass RX0 = some m.cls := findClass_of_methodNamed B.named
  have hlocks := B.notSynchronized
  have hall := fun (w : Cond) (h : w ∈ allw) => hts w (List.mem_cons_of_mem _ h)
  have hl := lv_entry ([.ref x, .int (nI d), .int mo, .long t]) (n := 14) (Nat.le_of_ble_eq_true rfl)
  rw [lg_entry_eq]
  generalize (lg_sl ([.ref x, .int (nI d), .int mo, .long t]) ++ List.replicate (14 - (lg_sl ([.ref x, .int (nI d), .int mo, .long t])).length) Slot.unset).toArray = ls at hl ⊢
  have hl : lv_has ls 14 [(0, .ref x), (1, .int (nI d)), (2, .int mo), (3, .long t)] := hl
  have hI0 := hI
  obtain ⟨hnD1, hnD, hnR1, hnR, hcap, hrc, hrR, hr0, hmo, hec, hac⟩ := hI
  have hle := wf_le hmo (show d + 1 ≤ nD by omega) (Nat.le_refl nD)
  have hmd := hmo d hd
  have hc := wf_fb_le ti (now + ed 0 - 1) (r (d + 1) - r d) (r d)
  rw [← hcut] at hc
  have hp := wf_fb_le ti (now + ed 0 - wf_lim mo (ed 0) t - 1) (cut - r d) (r d)
  rw [← hpl] at hp
  have hs := wf_ss_le va (ev 0) pl (cut - pl)
  rw [← hsm] at hs
  have hm3 : mo = 0 ∨ mo = 1 ∨ mo = 2 := hg.1.elim (fun q => Or.inr (Or.inr q.1)) (fun q => q.elim Or.inl (fun q => Or.inr (Or.inl q)))
  refine lv_aload_n hx hb dX0_assign_0 rfl (lv_at hl 0 rfl) ?_
  refine lv_iload_n hx hb dX0_assign_1 rfl (lv_at hl 1 rfl) ?_
  refine xv_call (W.runV (As := [.int (nI d)]) (rest := []) ⟨hx, hb, hml, hown, hall⟩ (c_requireDriver l dC dI x a1 a2 a3 a4 a5 a6 a7 cI cJ nD nR dv r cap ti va ev ed ec ad ac now hI0 d hd) (cwV 1 hall gX0_62 rfl rfl rfl (by decide +kernel) ⟨Nat.le_of_ble_eq_true rfl, Nat.le_of_ble_eq_true rfl⟩) ⟨xr_blind, va_recv hK hP (ci := 0) (q0 := 0) rfl rfl, fun U hU hW => ⟨rfl, by rw [hU]; exact hP, va_K.moved hW.alike hK⟩⟩ rfl rfl hl.1 rfl (lv_room (Nat.le_of_ble_eq_true rfl)) dX0_assign_2 ⟨by first | exact Nat.zero_le _ | omega, by first | exact Nat.zero_le _ | omega⟩) (fun hv_2 => ?_)
  refine lv_aload_n hx hb dX0_assign_5 rfl (lv_at hl 0 rfl) ?_
  refine va_get (D := (dC, dI)) (ci := 0) (v := .int (nI ec)) (C := RX0) (T := TX0) (N := 12) hx hb hall inX0 hown hK hP 0 rfl rfl 8 (by decide) (hall _ kw_31) (fun _ h9 => h9) rfl dX0_assign_6 ?_
  refine xz_ne (tgt := 22) hx hb (by omega) dX0_assign_9 (by decide) (fun c_3 => ?_) (fun c_3 => ?_)
  · refine lv_aload_n hx hb dX0_assign_22 rfl (lv_at hl 0 rfl) ?_
    refine lv_iload_n hx hb dX0_assign_23 rfl (lv_at hl 2 rfl) ?_
    refine lv_lload_n hx hb dX0_assign_24 rfl (lv_at hl 3 rfl) ?_
    refine vp_callSi (W.runV (As := [.int mo, .long t]) (rest := []) ⟨hx, hb, hml, hown, hall⟩ (c_isLimitGood l dC dI x a1 a2 a3 a4 a5 a6 a7 cI cJ nD nR dv r cap ti va ev ed ec ad ac now mo t) (cwV 2 hall gX0_68 rfl rfl rfl (by decide +kernel) ⟨Nat.le_of_ble_eq_true rfl, Nat.le_of_ble_eq_true rfl⟩) ⟨xr_blind, va_recv hK hP (ci := 0) (q0 := 0) rfl rfl, fun U hU hW => ⟨rfl, by rw [hU]; exact hP, va_K.moved hW.alike hK⟩⟩ rfl rfl hl.1 rfl (lv_room (Nat.le_of_ble_eq_true rfl)) dX0_assign_25 ⟨by first | exact Nat.zero_le _ | omega, by first | exact Nat.zero_le _ | omega⟩) (fun v_4 hv_5 => ?_)
    obtain rfl : v_4 = 1 := hv_5.elim (fun q => q.1) (fun q => absurd hg.1 q.2)
    refine lv_if_eq (tgt := 38) hx hb dX0_assign_28 (by decide) (fun c_6 => ?_) (fun c_6 => ?_)
    · exact absurd c_6 (by decide)
    · refine lv_aload_n hx hb dX0_assign_31 rfl (lv_at hl 0 rfl) ?_
      refine vp_callSi (W.runV (As := []) (rest := []) ⟨hx, hb, hml, hown, hall⟩ (c_areDelaysGood l dC dI x a1 a2 a3 a4 a5 a6 a7 cI cJ nD nR dv r cap ti va ev ed ec ad ac now hI0) (cwV 0 hall gX0_72 rfl rfl rfl (by decide +kernel) ⟨Nat.le_of_ble_eq_true rfl, Nat.le_of_ble_eq_true rfl⟩) ⟨xr_blind, va_recv hK hP (ci := 0) (q0 := 0) rfl rfl, fun U hU hW => ⟨rfl, by rw [hU]; exact hP, va_K.moved hW.alike hK⟩⟩ rfl rfl hl.1 rfl (lv_room (Nat.le_of_ble_eq_true rfl)) dX0_assign_32 ⟨by first | exact Nat.zero_le _ | omega, by first | exact Nat.zero_le _ | omega⟩) (fun v_7 hv_8 => ?_)
      obtain rfl : v_7 = 1 := hv_8.elim (fun q => q.1) (fun q => absurd hg.2 q.2)
      refine lv_if_ne (tgt := 48) hx hb dX0_assign_35 (by decide) (fun c_9 => ?_) (fun c_9 => ?_)
      · refine lv_aload_n hx hb dX0_assign_48 rfl (lv_at hl 0 rfl) ?_
        refine va_get (D := (dC, dI)) (ci := 0) (v := .long now) (C := RX0) (T := TX0) (N := 12) hx hb hall inX0 hown hK hP 0 rfl rfl 11 (by decide) (hall _ kw_34) (fun _ h9 => h9) rfl dX0_assign_49 ?_
        refine lv_aload_n hx hb dX0_assign_52 rfl (lv_at hl 0 rfl) ?_
        refine va_get (D := (dC, dI)) (ci := 0) (v := .ref a6) (C := RX0) (T := TX0) (N := 12) hx hb hall inX0 hown hK hP 0 rfl rfl 7 (by decide) (hall _ kw_30) (fun _ h9 => h9) rfl dX0_assign_53 ?_
        refine lv_iconst (v := 0) hx hb dX0_assign_56 (by decide) ?_
        refine tp_i (y := nI 0) nI_0.symm ?_
        refine xa_lald hx hb hK hP 6 1 rfl rfl (by omega) (by omega) dX0_assign_57 ?_
        refine lv_ladd hx hb dX0_assign_58 ?_
        refine lv_lstore (lv' := [(5, .long (now + (ed 0))), (0, .ref x), (1, .int (nI d)), (2, .int mo), (3, .long t)]) hx hb dX0_assign_59 hl (by decide) rfl (fun ls hl => ?_)
        refine lv_aload_n hx hb dX0_assign_61 rfl (lv_at hl 1 rfl) ?_
        refine va_get (D := (dC, dI)) (ci := 0) (v := .ref a2) (C := RX0) (T := TX0) (N := 12) hx hb hall inX0 hown hK hP 0 rfl rfl 3 (by decide) (hall _ kw_26) (fun _ h9 => h9) rfl dX0_assign_62 ?_
        refine lv_iload_n hx hb dX0_assign_65 rfl (lv_at hl 2 rfl) ?_
        refine xa_iald hx hb hK hP 2 0 rfl rfl (by omega) (by omega) dX0_assign_66 ?_
        refine lv_istore (lv' := [(7, .int (nI (r d))), (5, .long (now + (ed 0))), (0, .ref x), (1, .int (nI d)), (2, .int mo), (3, .long t)]) hx hb dX0_assign_67 hl (by decide) rfl (fun ls hl => ?_)
        refine lv_aload_n hx hb dX0_assign_69 rfl (lv_at hl 2 rfl) ?_
        refine va_get (D := (dC, dI)) (ci := 0) (v := .ref a2) (C := RX0) (T := TX0) (N := 12) hx hb hall inX0 hown hK hP 0 rfl rfl 3 (by decide) (hall _ kw_26) (fun _ h9 => h9) rfl dX0_assign_70 ?_
        refine lv_iload_n hx hb dX0_assign_73 rfl (lv_at hl 3 rfl) ?_
        refine lv_iconst (v := 1) hx hb dX0_assign_74 (by decide) ?_
        refine lv_iadd hx hb dX0_assign_75 ?_
        refine tp_i (y := nI (d + 1)) (nI_1 d) ?_
        refine xa_iald hx hb hK hP 2 0 rfl rfl (by omega) (by omega) dX0_assign_76 ?_
        refine lv_istore (lv' := [(8, .int (nI (r (d + 1)))), (7, .int (nI (r d))), (5, .long (now + (ed 0))), (0, .ref x), (1, .int (nI d)), (2, .int mo), (3, .long t)]) hx hb dX0_assign_77 hl (by decide) rfl (fun ls hl => ?_)
        refine lv_aload_n hx hb dX0_assign_79 rfl (lv_at hl 3 rfl) ?_
        refine lv_iload hx hb dX0_assign_80 (lv_at hl 1 rfl) ?_
        refine lv_iload hx hb dX0_assign_82 (lv_at hl 0 rfl) ?_
        refine lv_lload hx hb dX0_assign_84 (lv_at hl 2 rfl) ?_
        refine lv_lconst (v := 1) hx hb dX0_assign_86 (by decide) ?_
        refine lv_lsub hx hb dX0_assign_87 ?_
        refine vp_callSi (W.runV (As := [.int (nI (r d)), .int (nI (r (d + 1))), .long ((now + (ed 0)) - 1)]) (rest := []) ⟨hx, hb, hml, hown, hall⟩ (c_firstBehind l dC dI x a1 a2 a3 a4 a5 a6 a7 cI cJ nD nR dv r cap ti va ev ed ec ad ac now (r d) (r (d + 1)) (now + ed 0 - 1) hmd (by omega) hcap) (cwV 3 hall gX0_82 rfl rfl rfl (by decide +kernel) ⟨Nat.le_of_ble_eq_true rfl, Nat.le_of_ble_eq_true rfl⟩) ⟨xr_blind, va_recv hK hP (ci := 0) (q0 := 0) rfl rfl, fun U hU hW => ⟨rfl, by rw [hU]; exact hP, va_K.moved hW.alike hK⟩⟩ rfl rfl hl.1 rfl (lv_room (Nat.le_of_ble_eq_true rfl)) dX0_assign_88 ⟨by first | exact Nat.zero_le _ | omega, by first | exact Nat.zero_le _ | omega⟩) (fun v_10 hv_11 => ?_)
        obtain rfl : v_10 = nI cut := hv_11.trans (by rw [← hcut])
        refine lv_istore (lv' := [(9, .int (nI cut)), (8, .int (nI (r (d + 1)))), (7, .int (nI (r d))), (5, .long (now + (ed 0))), (0, .ref x), (1, .int (nI d)), (2, .int mo), (3, .long t)]) hx hb dX0_assign_91 hl (by decide) rfl (fun ls hl => ?_)
        refine lv_aload_n hx hb dX0_assign_93 rfl (lv_at hl 4 rfl) ?_
        refine lv_iload hx hb dX0_assign_94 (lv_at hl 2 rfl) ?_
        refine lv_iload hx hb dX0_assign_96 (lv_at hl 0 rfl) ?_
        refine lv_lload hx hb dX0_assign_98 (lv_at hl 3 rfl) ?_
        refine lv_aload_n hx hb dX0_assign_100 rfl (lv_at hl 4 rfl) ?_
        refine lv_iload_n hx hb dX0_assign_101 rfl (lv_at hl 6 rfl) ?_
        refine lv_lload_n hx hb dX0_assign_102 rfl (lv_at hl 7 rfl) ?_
        refine vp_callSl (W.runV (As := [.int mo, .long t]) (rest := [.long (now + (ed 0)), .int (nI cut), .int (nI (r d)), .ref x]) ⟨hx, hb, hml, hown, hall⟩ (c_limitOf l dC dI x a1 a2 a3 a4 a5 a6 a7 cI cJ nD nR dv r cap ti va ev ed ec ad ac now mo t hm3) (cwV 2 hall gX0_86 rfl rfl rfl (by decide +kernel) ⟨Nat.le_of_ble_eq_true rfl, Nat.le_of_ble_eq_true rfl⟩) ⟨xr_blind, va_recv hK hP (ci := 0) (q0 := 0) rfl rfl, fun U hU hW => ⟨rfl, by rw [hU]; exact hP, va_K.moved hW.alike hK⟩⟩ rfl rfl hl.1 rfl (lv_room (Nat.le_of_ble_eq_true rfl)) dX0_assign_103 ⟨by first | exact Nat.zero_le _ | omega, by first | exact Nat.zero_le _ | omega⟩) (fun v_12 hv_13 => ?_)
        subst hv_13
        refine lv_lsub hx hb dX0_assign_106 ?_
        refine lv_lconst (v := 1) hx hb dX0_assign_107 (by decide) ?_
        refine lv_lsub hx hb dX0_assign_108 ?_
        refine vp_callSi (W.runV (As := [.int (nI (r d)), .int (nI cut), .long (((now + (ed 0)) - (wf_lim mo (ed 0) t)) - 1)]) (rest := []) ⟨hx, hb, hml, hown, hall⟩ (c_firstBehind l dC dI x a1 a2 a3 a4 a5 a6 a7 cI cJ nD nR dv r cap ti va ev ed ec ad ac now (r d) cut (now + ed 0 - wf_lim mo (ed 0) t - 1) hc.1 (by omega) hcap) (cwV 3 hall gX0_82 rfl rfl rfl (by decide +kernel) ⟨Nat.le_of_ble_eq_true rfl, Nat.le_of_ble_eq_true rfl⟩) ⟨xr_blind, va_recv hK hP (ci := 0) (q0 := 0) rfl rfl, fun U hU hW => ⟨rfl, by rw [hU]; exact hP, va_K.moved hW.alike hK⟩⟩ rfl rfl hl.1 rfl (lv_room (Nat.le_of_ble_eq_true rfl)) dX0_assign_109 ⟨by first | exact Nat.zero_le _ | omega, by first | exact Nat.zero_le _ | omega⟩) (fun v_14 hv_15 => ?_)
        obtain rfl : v_14 = nI pl := hv_15.trans (by rw [← hpl])
        refine lv_istore (lv' := [(10, .int (nI pl)), (9, .int (nI cut)), (8, .int (nI (r (d + 1)))), (7, .int (nI (r d))), (5, .long (now + (ed 0))), (0, .ref x), (1, .int (nI d)), (2, .int mo), (3, .long t)]) hx hb dX0_assign_112 hl (by decide) rfl (fun ls hl => ?_)
        refine lv_aload_n hx hb dX0_assign_114 rfl (lv_at hl 5 rfl) ?_
        refine lv_iload hx hb dX0_assign_115 (lv_at hl 0 rfl) ?_
        refine lv_iload hx hb dX0_assign_117 (lv_at hl 1 rfl) ?_
        refine lv_aload_n hx hb dX0_assign_119 rfl (lv_at hl 5 rfl) ?_
        refine va_get (D := (dC, dI)) (ci := 0) (v := .ref a5) (C := RX0) (T := TX0) (N := 12) hx hb hall inX0 hown hK hP 0 rfl rfl 6 (by decide) (hall _ kw_29) (fun _ h9 => h9) rfl dX0_assign_120 ?_
        refine lv_iconst (v := 0) hx hb dX0_assign_123 (by decide) ?_
        refine tp_i (y := nI 0) nI_0.symm ?_
        refine xa_lald hx hb hK hP 5 1 rfl rfl (by omega) (by omega) dX0_assign_124 ?_
        refine vp_callSi (W.runV (As := [.int (nI pl), .int (nI cut), .long (ev 0)]) (rest := []) ⟨hx, hb, hml, hown, hall⟩ (c_startOfSameValues l dC dI x a1 a2 a3 a4 a5 a6 a7 cI cJ nD nR dv r cap ti va ev ed ec ad ac now pl cut (ev 0) (by omega) (by omega) hcap) (cwV 3 hall gX0_90 rfl rfl rfl (by decide +kernel) ⟨Nat.le_of_ble_eq_true rfl, Nat.le_of_ble_eq_true rfl⟩) ⟨xr_blind, va_recv hK hP (ci := 0) (q0 := 0) rfl rfl, fun U hU hW => ⟨rfl, by rw [hU]; exact hP, va_K.moved hW.alike hK⟩⟩ rfl rfl hl.1 rfl (lv_room (Nat.le_of_ble_eq_true rfl)) dX0_assign_125 ⟨by first | exact Nat.zero_le _ | omega, by first | exact Nat.zero_le _ | omega⟩) (fun v_16 hv_17 => ?_)
        obtain rfl : v_16 = nI sm := hv_17.trans (by rw [← hsm])
        refine lv_istore (lv' := [(11, .int (nI sm)), (10, .int (nI pl)), (9, .int (nI cut)), (8, .int (nI (r (d + 1)))), (7, .int (nI (r d))), (5, .long (now + (ed 0))), (0, .ref x), (1, .int (nI d)), (2, .int mo), (3, .long t)]) hx hb dX0_assign_128 hl (by decide) rfl (fun ls hl => ?_)
        refine lv_iload hx hb dX0_assign_130 (lv_at hl 0 rfl) ?_
        refine lv_iload hx hb dX0_assign_132 (lv_at hl 1 rfl) ?_
        refine lv_isub hx hb dX0_assign_134 ?_
        refine tp_i (y := nI (sm - pl)) (pk_sub (by omega)) ?_
        refine lv_iload hx hb dX0_assign_135 (lv_at hl 3 rfl) ?_
        refine lv_iload hx hb dX0_assign_137 (lv_at hl 2 rfl) ?_
        refine lv_isub hx hb dX0_assign_139 ?_
        refine tp_i (y := nI (r (d + 1) - cut)) (pk_sub (by omega)) ?_
        refine lv_iadd hx hb dX0_assign_140 ?_
        refine tp_i (y := nI (sm - pl + (r (d + 1) - cut))) (nI_add _ _) ?_
        refine lv_istore (lv' := [(12, .int (nI (sm - pl + (r (d + 1) - cut)))), (11, .int (nI sm)), (10, .int (nI pl)), (9, .int (nI cut)), (8, .int (nI (r (d + 1)))), (7, .int (nI (r d))), (5, .long (now + (ed 0))), (0, .ref x), (1, .int (nI d)), (2, .int mo), (3, .long t)]) hx hb dX0_assign_141 hl (by decide) rfl (fun ls hl => ?_)
        refine lv_aload_n hx hb dX0_assign_143 rfl (lv_at hl 7 rfl) ?_
        refine va_get (D := (dC, dI)) (ci := 0) (v := .ref a2) (C := RX0) (T := TX0) (N := 12) hx hb hall inX0 hown hK hP 0 rfl rfl 3 (by decide) (hall _ kw_26) (fun _ h9 => h9) rfl dX0_assign_144 ?_
        refine lv_aload_n hx hb dX0_assign_147 rfl (lv_at hl 7 rfl) ?_
        refine va_get (D := (dC, dI)) (ci := 0) (v := .int (nI nD)) (C := RX0) (T := TX0) (N := 12) hx hb hall inX0 hown hK hP 0 rfl rfl 0 (by decide) (hall _ kw_23) (fun _ h9 => h9) rfl dX0_assign_148 ?_
        refine xa_iald hx hb hK hP 2 0 rfl rfl (by omega) (by omega) dX0_assign_151 ?_
        refine lv_iload hx hb dX0_assign_152 (lv_at hl 0 rfl) ?_
        refine lv_isub hx hb dX0_assign_154 ?_
        refine tp_i (y := nI (r nD - (sm - pl + (r (d + 1) - cut)))) (pk_sub (by omega)) ?_
        refine lv_aload_n hx hb dX0_assign_155 rfl (lv_at hl 7 rfl) ?_
        refine va_get (D := (dC, dI)) (ci := 0) (v := .int (nI ec)) (C := RX0) (T := TX0) (N := 12) hx hb hall inX0 hown hK hP 0 rfl rfl 8 (by decide) (hall _ kw_31) (fun _ h9 => h9) rfl dX0_assign_156 ?_
        refine lv_iadd hx hb dX0_assign_159 ?_
        refine tp_i (y := nI (r nD - (sm - pl + (r (d + 1) - cut)) + ec)) (nI_add _ _) ?_
        refine lv_aload_n hx hb dX0_assign_160 rfl (lv_at hl 7 rfl) ?_
        refine va_get (D := (dC, dI)) (ci := 0) (v := .int (nI nR)) (C := RX0) (T := TX0) (N := 12) hx hb hall inX0 hown hK hP 0 rfl rfl 1 (by decide) (hall _ kw_24) (fun _ h9 => h9) rfl dX0_assign_161 ?_
        refine xc_le (tgt := 177) hx hb (by omega) (by omega) dX0_assign_164 (by decide) (fun c_18 => ?_) (fun c_18 => ?_)
        · exact absurd c_18 (by omega)
        · obtain ⟨sa, hsa⟩ := hok.2 (93, "there is no room for so many transactions") (by decide)
          exact xt_throw (own := RX0) (cls := "java/lang/IllegalStateException") (text := "there is no room for so many transactions") (names := xt_rt) (ik := 57) (is := 93) (ic := 61) hx hb hst hown (by decide) (by decide) (xt_at hok _ (by decide +kernel)) (xt_at hok _ (by decide +kernel)) hsa (fun w hw => xt_at hok w (xt_in2 w hw)) (hl.1.trans hml.symm) dX0_assign_167 dX0_assign_170 dX0_assign_171 dX0_assign_173 dX0_assign_176 hout (by decide) (by decide) (by decide) (by decide) hlocks
      · exact absurd c_9 (by decide)
  · exact absurd c_3 (by omega)
set_option maxHeartbeats 4000000 in
set_option maxRecDepth 100000 in
theorem c_assign (l : Launch) (dC : Nat → ClassId) (dI : Nat → Nat → Nat) (x a1 a2 a3 a4 a5 a6 a7 : Nat) (cI cJ : ClassId) (nD nR : Nat) (dv : Nat → Int64) (r : Nat → Nat) (cap : Nat) (ti va ev ed : Nat → Int64) (ec : Nat) (ad : Nat → Int32) (ac : Nat) (now : Int64) (sz : Nat) (hI : wf_R nD nR cap ec ac r) (d : Nat) (mo : Int32) (t : Int64) (hd : d < nD) (hz : 0 < ec) (hg : wf_lg mo (ed 0) t ∧ wf_dg ed now ec 0 (-1)) (cut pl sm : Nat) (hcut : cut = wf_fb ti (now + ed 0 - 1) (r (d + 1) - r d) (r d)) (hpl : pl = wf_fb ti (now + ed 0 - wf_lim mo (ed 0) t - 1) (cut - r d) (r d)) (hsm : sm = wf_ss va (ev 0) pl (cut - pl)) (hroom : r nD - (sm - pl + (r (d + 1) - cut)) + ec ≤ nR) (hq : r nD + (pl + cut - sm + ec) - r (d + 1) ≤ cap) : Met l yX0_assign wsX0_assign ({ frames := 3, cells := 0, slots := 0, locals := 109 }) (va_Pc [.ref x, .int (nI d), .int mo, .long t] (fun U => U.heap.size = sz ∧ va_P (dC, dI) vwCl (wr x a1 a2 a3 a4 a5 a6 a7 cI cJ nD nR dv r cap ti va ev ed ec ad ac now) U.heap ∧ va_K (dC, dI) vwCl [(cI, .int), (cJ, .long)] U ∧ va_D (fun _ => True) (wr x a1 a2 a3 a4 a5 a6 a7 cI cJ nD nR dv r cap ti va ev ed ec ad ac now))) (va_Qi (fun (v : Int32) (_ : Unit) => v = nI (sm - pl + (r (d + 1) - cut))) (fun _ t9 => va_P (dC, dI) vwCl (wr x a1 a2 a3 a4 a5 a6 a7 cI cJ nD nR dv (wf_sh r d (pl + cut - sm + ec) (r (d + 1)) (nD + 1)) cap (wf_pt (va_cpy (va_cpy ti ti sm pl (cut - sm)) (va_cpy ti ti sm pl (cut - sm)) (r (d + 1)) (pl + cut - sm + ec) (r nD - r (d + 1))) (pl + cut - sm) (fun i => now + ed i) ec) (wf_pt (va_cpy (va_cpy va va sm pl (cut - sm)) (va_cpy va va sm pl (cut - sm)) (r (d + 1)) (pl + cut - sm + ec) (r nD - r (d + 1))) (pl + cut - sm) ev ec) ev ed 0 ad ac now) t9.heap ∧ va_K (dC, dI) vwCl [(cI, .int), (cJ, .long)] t9 ∧ va_D (va_A (wr x a1 a2 a3 a4 a5 a6 a7 cI cJ nD nR dv r cap ti va ev ed ec ad ac now) sz) (wr x a1 a2 a3 a4 a5 a6 a7 cI cJ nD nR dv (wf_sh r d (pl + cut - sm + ec) (r (d + 1)) (nD + 1)) cap (wf_pt (va_cpy (va_cpy ti ti sm pl (cut - sm)) (va_cpy ti ti sm pl (cut - sm)) (r (d + 1)) (pl + cut - sm + ec) (r nD - r (d + 1))) (pl + cut - sm) (fun i => now + ed i) ec) (wf_pt (va_cpy (va_cpy va va sm pl (cut - sm)) (va_cpy va va sm pl (cut - sm)) (r (d + 1)) (pl + cut - sm + ec) (r nD - r (d + 1))) (pl + cut - sm) ev ec) ev ed 0 ad ac now)) (va_A (wr x a1 a2 a3 a4 a5 a6 a7 cI cJ nD nR dv r cap ti va ev ed ec ad ac now) sz)) 0 0 (va_A (wr x a1 a2 a3 a4 a5 a6 a7 cI cJ nD nR dv r cap ti va ev ed ec ad ac now) sz) := by
  refine Met.ofW (cc := cX0_assign) (maxL := 14) (ret := (some .int)) (by decide) rfl ?_
  intro p e s m args below meth c s₁ B hml hv
  obtain ⟨rfl, hsz, hP, hK, hD0⟩ := hv
  subst hsz
  have hD := hD0.self (sz := s.heap.size)
  generalize hAe : va_A (wr x a1 a2 a3 a4 a5 a6 a7 cI cJ nD nR dv r cap ti va ev ed ec ad ac now) s.heap.size = A at hD ⊢
  have hA : ∀ q : Nat, s.heap.size ≤ q → A q := fun q h => by rw [← hAe]; exact Or.inr h
  have hS : va_S A s.heap s.heap [] := va_S.rf
  have hx := B.exec
  have hb := B.bytes
  have hr := B.returns
  have hts := atoms_spec (ws := wsX0_assign) B.pre
  have hown : s.vm.findClass RX0 = some m.cls := findClass_of_methodNamed B.named
  have hlocks := B.notSynchronized
  have hall := fun (w : Cond) (h : w ∈ allw) => hts w (List.mem_cons_of_mem _ h)
  have hl := lv_entry ([.ref x, .int (nI d), .int mo, .long t]) (n := 14) (Nat.le_of_ble_eq_true rfl)
  rw [lg_entry_eq]
  generalize (lg_sl ([.ref x, .int (nI d), .int mo, .long t]) ++ List.replicate (14 - (lg_sl ([.ref x, .int (nI d), .int mo, .long t])).length) Slot.unset).toArray = ls at hl ⊢
  have hl : lv_has ls 14 [(0, .ref x), (1, .int (nI d)), (2, .int mo), (3, .long t)] := hl
  have hI0 := hI
  obtain ⟨hnD1, hnD, hnR1, hnR, hcap, hrc, hrR, hr0, hmo, hec, hac⟩ := hI
  have hle := wf_le hmo (show d + 1 ≤ nD by omega) (Nat.le_refl nD)
  have hmd := hmo d hd
  have hc := wf_fb_le ti (now + ed 0 - 1) (r (d + 1) - r d) (r d)
  rw [← hcut] at hc
  have hp := wf_fb_le ti (now + ed 0 - wf_lim mo (ed 0) t - 1) (cut - r d) (r d)
  rw [← hpl] at hp
  have hs := wf_ss_le va (ev 0) pl (cut - pl)
  rw [← hsm] at hs
  have hm3 : mo = 0 ∨ mo = 1 ∨ mo = 2 := hg.1.elim (fun q => Or.inr (Or.inr q.1)) (fun q => q.elim Or.inl (fun q => Or.inr (Or.inl q)))
  refine lv_aload_n hx hb dX0_assign_0 rfl (lv_at hl 0 rfl) ?_
  refine lv_iload_n hx hb dX0_assign_1 rfl (lv_at hl 1 rfl) ?_
  refine xv_call (W.runV (As := [.int (nI d)]) (rest := []) ⟨hx, hb, hml, hown, hall⟩ (c_requireDriver l dC dI x a1 a2 a3 a4 a5 a6 a7 cI cJ nD nR dv r cap ti va ev ed ec ad ac now hI0 d hd) (cwV 1 hall gX0_62 rfl rfl rfl (by decide +kernel) ⟨Nat.le_of_ble_eq_true rfl, Nat.le_of_ble_eq_true rfl⟩) ⟨xr_blind, va_recv hK hP (ci := 0) (q0 := 0) rfl rfl, fun U hU hW => ⟨rfl, by rw [hU]; exact hP, va_K.moved hW.alike hK⟩⟩ rfl rfl hl.1 rfl (lv_room (Nat.le_of_ble_eq_true rfl)) dX0_assign_2 ⟨by first | exact Nat.zero_le _ | omega, by first | exact Nat.zero_le _ | omega⟩) (fun hv_2 => ?_)
  refine lv_aload_n hx hb dX0_assign_5 rfl (lv_at hl 0 rfl) ?_
  refine va_get (D := (dC, dI)) (ci := 0) (v := .int (nI ec)) (C := RX0) (T := TX0) (N := 12) hx hb hall inX0 hown hK hP 0 rfl rfl 8 (by decide) (hall _ kw_31) (fun _ h9 => h9) rfl dX0_assign_6 ?_
  refine xz_ne (tgt := 22) hx hb (by omega) dX0_assign_9 (by decide) (fun c_3 => ?_) (fun c_3 => ?_)
  · refine lv_aload_n hx hb dX0_assign_22 rfl (lv_at hl 0 rfl) ?_
    refine lv_iload_n hx hb dX0_assign_23 rfl (lv_at hl 2 rfl) ?_
    refine lv_lload_n hx hb dX0_assign_24 rfl (lv_at hl 3 rfl) ?_
    refine vp_callSi (W.runV (As := [.int mo, .long t]) (rest := []) ⟨hx, hb, hml, hown, hall⟩ (c_isLimitGood l dC dI x a1 a2 a3 a4 a5 a6 a7 cI cJ nD nR dv r cap ti va ev ed ec ad ac now mo t) (cwV 2 hall gX0_68 rfl rfl rfl (by decide +kernel) ⟨Nat.le_of_ble_eq_true rfl, Nat.le_of_ble_eq_true rfl⟩) ⟨xr_blind, va_recv hK hP (ci := 0) (q0 := 0) rfl rfl, fun U hU hW => ⟨rfl, by rw [hU]; exact hP, va_K.moved hW.alike hK⟩⟩ rfl rfl hl.1 rfl (lv_room (Nat.le_of_ble_eq_true rfl)) dX0_assign_25 ⟨by first | exact Nat.zero_le _ | omega, by first | exact Nat.zero_le _ | omega⟩) (fun v_4 hv_5 => ?_)
    obtain rfl : v_4 = 1 := hv_5.elim (fun q => q.1) (fun q => absurd hg.1 q.2)
    refine lv_if_eq (tgt := 38) hx hb dX0_assign_28 (by decide) (fun c_6 => ?_) (fun c_6 => ?_)
    · exact absurd c_6 (by decide)
    · refine lv_aload_n hx hb dX0_assign_31 rfl (lv_at hl 0 rfl) ?_
      refine vp_callSi (W.runV (As := []) (rest := []) ⟨hx, hb, hml, hown, hall⟩ (c_areDelaysGood l dC dI x a1 a2 a3 a4 a5 a6 a7 cI cJ nD nR dv r cap ti va ev ed ec ad ac now hI0) (cwV 0 hall gX0_72 rfl rfl rfl (by decide +kernel) ⟨Nat.le_of_ble_eq_true rfl, Nat.le_of_ble_eq_true rfl⟩) ⟨xr_blind, va_recv hK hP (ci := 0) (q0 := 0) rfl rfl, fun U hU hW => ⟨rfl, by rw [hU]; exact hP, va_K.moved hW.alike hK⟩⟩ rfl rfl hl.1 rfl (lv_room (Nat.le_of_ble_eq_true rfl)) dX0_assign_32 ⟨by first | exact Nat.zero_le _ | omega, by first | exact Nat.zero_le _ | omega⟩) (fun v_7 hv_8 => ?_)
      obtain rfl : v_7 = 1 := hv_8.elim (fun q => q.1) (fun q => absurd hg.2 q.2)
      refine lv_if_ne (tgt := 48) hx hb dX0_assign_35 (by decide) (fun c_9 => ?_) (fun c_9 => ?_)
      · refine lv_aload_n hx hb dX0_assign_48 rfl (lv_at hl 0 rfl) ?_
        refine va_get (D := (dC, dI)) (ci := 0) (v := .long now) (C := RX0) (T := TX0) (N := 12) hx hb hall inX0 hown hK hP 0 rfl rfl 11 (by decide) (hall _ kw_34) (fun _ h9 => h9) rfl dX0_assign_49 ?_
        refine lv_aload_n hx hb dX0_assign_52 rfl (lv_at hl 0 rfl) ?_
        refine va_get (D := (dC, dI)) (ci := 0) (v := .ref a6) (C := RX0) (T := TX0) (N := 12) hx hb hall inX0 hown hK hP 0 rfl rfl 7 (by decide) (hall _ kw_30) (fun _ h9 => h9) rfl dX0_assign_53 ?_
        refine lv_iconst (v := 0) hx hb dX0_assign_56 (by decide) ?_
        refine tp_i (y := nI 0) nI_0.symm ?_
        refine xa_lald hx hb hK hP 6 1 rfl rfl (by omega) (by omega) dX0_assign_57 ?_
        refine lv_ladd hx hb dX0_assign_58 ?_
        refine lv_lstore (lv' := [(5, .long (now + (ed 0))), (0, .ref x), (1, .int (nI d)), (2, .int mo), (3, .long t)]) hx hb dX0_assign_59 hl (by decide) rfl (fun ls hl => ?_)
        refine lv_aload_n hx hb dX0_assign_61 rfl (lv_at hl 1 rfl) ?_
        refine va_get (D := (dC, dI)) (ci := 0) (v := .ref a2) (C := RX0) (T := TX0) (N := 12) hx hb hall inX0 hown hK hP 0 rfl rfl 3 (by decide) (hall _ kw_26) (fun _ h9 => h9) rfl dX0_assign_62 ?_
        refine lv_iload_n hx hb dX0_assign_65 rfl (lv_at hl 2 rfl) ?_
        refine xa_iald hx hb hK hP 2 0 rfl rfl (by omega) (by omega) dX0_assign_66 ?_
        refine lv_istore (lv' := [(7, .int (nI (r d))), (5, .long (now + (ed 0))), (0, .ref x), (1, .int (nI d)), (2, .int mo), (3, .long t)]) hx hb dX0_assign_67 hl (by decide) rfl (fun ls hl => ?_)
        refine lv_aload_n hx hb dX0_assign_69 rfl (lv_at hl 2 rfl) ?_
        refine va_get (D := (dC, dI)) (ci := 0) (v := .ref a2) (C := RX0) (T := TX0) (N := 12) hx hb hall inX0 hown hK hP 0 rfl rfl 3 (by decide) (hall _ kw_26) (fun _ h9 => h9) rfl dX0_assign_70 ?_
        refine lv_iload_n hx hb dX0_assign_73 rfl (lv_at hl 3 rfl) ?_
        refine lv_iconst (v := 1) hx hb dX0_assign_74 (by decide) ?_
        refine lv_iadd hx hb dX0_assign_75 ?_
        refine tp_i (y := nI (d + 1)) (nI_1 d) ?_
        refine xa_iald hx hb hK hP 2 0 rfl rfl (by omega) (by omega) dX0_assign_76 ?_
        refine lv_istore (lv' := [(8, .int (nI (r (d + 1)))), (7, .int (nI (r d))), (5, .long (now + (ed 0))), (0, .ref x), (1, .int (nI d)), (2, .int mo), (3, .long t)]) hx hb dX0_assign_77 hl (by decide) rfl (fun ls hl => ?_)
        refine lv_aload_n hx hb dX0_assign_79 rfl (lv_at hl 3 rfl) ?_
        refine lv_iload hx hb dX0_assign_80 (lv_at hl 1 rfl) ?_
        refine lv_iload hx hb dX0_assign_82 (lv_at hl 0 rfl) ?_
        refine lv_lload hx hb dX0_assign_84 (lv_at hl 2 rfl) ?_
        refine lv_lconst (v := 1) hx hb dX0_assign_86 (by decide) ?_
        refine lv_lsub hx hb dX0_assign_87 ?_
        refine vp_callSi (W.runV (As := [.int (nI (r d)), .int (nI (r (d + 1))), .long ((now + (ed 0)) - 1)]) (rest := []) ⟨hx, hb, hml, hown, hall⟩ (c_firstBehind l dC dI x a1 a2 a3 a4 a5 a6 a7 cI cJ nD nR dv r cap ti va ev ed ec ad ac now (r d) (r (d + 1)) (now + ed 0 - 1) hmd (by omega) hcap) (cwV 3 hall gX0_82 rfl rfl rfl (by decide +kernel) ⟨Nat.le_of_ble_eq_true rfl, Nat.le_of_ble_eq_true rfl⟩) ⟨xr_blind, va_recv hK hP (ci := 0) (q0 := 0) rfl rfl, fun U hU hW => ⟨rfl, by rw [hU]; exact hP, va_K.moved hW.alike hK⟩⟩ rfl rfl hl.1 rfl (lv_room (Nat.le_of_ble_eq_true rfl)) dX0_assign_88 ⟨by first | exact Nat.zero_le _ | omega, by first | exact Nat.zero_le _ | omega⟩) (fun v_10 hv_11 => ?_)
        obtain rfl : v_10 = nI cut := hv_11.trans (by rw [← hcut])
        refine lv_istore (lv' := [(9, .int (nI cut)), (8, .int (nI (r (d + 1)))), (7, .int (nI (r d))), (5, .long (now + (ed 0))), (0, .ref x), (1, .int (nI d)), (2, .int mo), (3, .long t)]) hx hb dX0_assign_91 hl (by decide) rfl (fun ls hl => ?_)
        refine lv_aload_n hx hb dX0_assign_93 rfl (lv_at hl 4 rfl) ?_
        refine lv_iload hx hb dX0_assign_94 (lv_at hl 2 rfl) ?_
        refine lv_iload hx hb dX0_assign_96 (lv_at hl 0 rfl) ?_
        refine lv_lload hx hb dX0_assign_98 (lv_at hl 3 rfl) ?_
        refine lv_aload_n hx hb dX0_assign_100 rfl (lv_at hl 4 rfl) ?_
        refine lv_iload_n hx hb dX0_assign_101 rfl (lv_at hl 6 rfl) ?_
        refine lv_lload_n hx hb dX0_assign_102 rfl (lv_at hl 7 rfl) ?_
        refine vp_callSl (W.runV (As := [.int mo, .long t]) (rest := [.long (now + (ed 0)), .int (nI cut), .int (nI (r d)), .ref x]) ⟨hx, hb, hml, hown, hall⟩ (c_limitOf l dC dI x a1 a2 a3 a4 a5 a6 a7 cI cJ nD nR dv r cap ti va ev ed ec ad ac now mo t hm3) (cwV 2 hall gX0_86 rfl rfl rfl (by decide +kernel) ⟨Nat.le_of_ble_eq_true rfl, Nat.le_of_ble_eq_true rfl⟩) ⟨xr_blind, va_recv hK hP (ci := 0) (q0 := 0) rfl rfl, fun U hU hW => ⟨rfl, by rw [hU]; exact hP, va_K.moved hW.alike hK⟩⟩ rfl rfl hl.1 rfl (lv_room (Nat.le_of_ble_eq_true rfl)) dX0_assign_103 ⟨by first | exact Nat.zero_le _ | omega, by first | exact Nat.zero_le _ | omega⟩) (fun v_12 hv_13 => ?_)
        subst hv_13
        refine lv_lsub hx hb dX0_assign_106 ?_
        refine lv_lconst (v := 1) hx hb dX0_assign_107 (by decide) ?_
        refine lv_lsub hx hb dX0_assign_108 ?_
        refine vp_callSi (W.runV (As := [.int (nI (r d)), .int (nI cut), .long (((now + (ed 0)) - (wf_lim mo (ed 0) t)) - 1)]) (rest := []) ⟨hx, hb, hml, hown, hall⟩ (c_firstBehind l dC dI x a1 a2 a3 a4 a5 a6 a7 cI cJ nD nR dv r cap ti va ev ed ec ad ac now (r d) cut (now + ed 0 - wf_lim mo (ed 0) t - 1) hc.1 (by omega) hcap) (cwV 3 hall gX0_82 rfl rfl rfl (by decide +kernel) ⟨Nat.le_of_ble_eq_true rfl, Nat.le_of_ble_eq_true rfl⟩) ⟨xr_blind, va_recv hK hP (ci := 0) (q0 := 0) rfl rfl, fun U hU hW => ⟨rfl, by rw [hU]; exact hP, va_K.moved hW.alike hK⟩⟩ rfl rfl hl.1 rfl (lv_room (Nat.le_of_ble_eq_true rfl)) dX0_assign_109 ⟨by first | exact Nat.zero_le _ | omega, by first | exact Nat.zero_le _ | omega⟩) (fun v_14 hv_15 => ?_)
        obtain rfl : v_14 = nI pl := hv_15.trans (by rw [← hpl])
        refine lv_istore (lv' := [(10, .int (nI pl)), (9, .int (nI cut)), (8, .int (nI (r (d + 1)))), (7, .int (nI (r d))), (5, .long (now + (ed 0))), (0, .ref x), (1, .int (nI d)), (2, .int mo), (3, .long t)]) hx hb dX0_assign_112 hl (by decide) rfl (fun ls hl => ?_)
        refine lv_aload_n hx hb dX0_assign_114 rfl (lv_at hl 5 rfl) ?_
        refine lv_iload hx hb dX0_assign_115 (lv_at hl 0 rfl) ?_
        refine lv_iload hx hb dX0_assign_117 (lv_at hl 1 rfl) ?_
        refine lv_aload_n hx hb dX0_assign_119 rfl (lv_at hl 5 rfl) ?_
        refine va_get (D := (dC, dI)) (ci := 0) (v := .ref a5) (C := RX0) (T := TX0) (N := 12) hx hb hall inX0 hown hK hP 0 rfl rfl 6 (by decide) (hall _ kw_29) (fun _ h9 => h9) rfl dX0_assign_120 ?_
        refine lv_iconst (v := 0) hx hb dX0_assign_123 (by decide) ?_
        refine tp_i (y := nI 0) nI_0.symm ?_
        refine xa_lald hx hb hK hP 5 1 rfl rfl (by omega) (by omega) dX0_assign_124 ?_
        refine vp_callSi (W.runV (As := [.int (nI pl), .int (nI cut), .long (ev 0)]) (rest := []) ⟨hx, hb, hml, hown, hall⟩ (c_startOfSameValues l dC dI x a1 a2 a3 a4 a5 a6 a7 cI cJ nD nR dv r cap ti va ev ed ec ad ac now pl cut (ev 0) (by omega) (by omega) hcap) (cwV 3 hall gX0_90 rfl rfl rfl (by decide +kernel) ⟨Nat.le_of_ble_eq_true rfl, Nat.le_of_ble_eq_true rfl⟩) ⟨xr_blind, va_recv hK hP (ci := 0) (q0 := 0) rfl rfl, fun U hU hW => ⟨rfl, by rw [hU]; exact hP, va_K.moved hW.alike hK⟩⟩ rfl rfl hl.1 rfl (lv_room (Nat.le_of_ble_eq_true rfl)) dX0_assign_125 ⟨by first | exact Nat.zero_le _ | omega, by first | exact Nat.zero_le _ | omega⟩) (fun v_16 hv_17 => ?_)
        obtain rfl : v_16 = nI sm := hv_17.trans (by rw [← hsm])
        refine lv_istore (lv' := [(11, .int (nI sm)), (10, .int (nI pl)), (9, .int (nI cut)), (8, .int (nI (r (d + 1)))), (7, .int (nI (r d))), (5, .long (now + (ed 0))), (0, .ref x), (1, .int (nI d)), (2, .int mo), (3, .long t)]) hx hb dX0_assign_128 hl (by decide) rfl (fun ls hl => ?_)
        refine lv_iload hx hb dX0_assign_130 (lv_at hl 0 rfl) ?_
        refine lv_iload hx hb dX0_assign_132 (lv_at hl 1 rfl) ?_
        refine lv_isub hx hb dX0_assign_134 ?_
        refine tp_i (y := nI (sm - pl)) (pk_sub (by omega)) ?_
        refine lv_iload hx hb dX0_assign_135 (lv_at hl 3 rfl) ?_
        refine lv_iload hx hb dX0_assign_137 (lv_at hl 2 rfl) ?_
        refine lv_isub hx hb dX0_assign_139 ?_
        refine tp_i (y := nI (r (d + 1) - cut)) (pk_sub (by omega)) ?_
        refine lv_iadd hx hb dX0_assign_140 ?_
        refine tp_i (y := nI (sm - pl + (r (d + 1) - cut))) (nI_add _ _) ?_
        refine lv_istore (lv' := [(12, .int (nI (sm - pl + (r (d + 1) - cut)))), (11, .int (nI sm)), (10, .int (nI pl)), (9, .int (nI cut)), (8, .int (nI (r (d + 1)))), (7, .int (nI (r d))), (5, .long (now + (ed 0))), (0, .ref x), (1, .int (nI d)), (2, .int mo), (3, .long t)]) hx hb dX0_assign_141 hl (by decide) rfl (fun ls hl => ?_)
        refine lv_aload_n hx hb dX0_assign_143 rfl (lv_at hl 7 rfl) ?_
        refine va_get (D := (dC, dI)) (ci := 0) (v := .ref a2) (C := RX0) (T := TX0) (N := 12) hx hb hall inX0 hown hK hP 0 rfl rfl 3 (by decide) (hall _ kw_26) (fun _ h9 => h9) rfl dX0_assign_144 ?_
        refine lv_aload_n hx hb dX0_assign_147 rfl (lv_at hl 7 rfl) ?_
        refine va_get (D := (dC, dI)) (ci := 0) (v := .int (nI nD)) (C := RX0) (T := TX0) (N := 12) hx hb hall inX0 hown hK hP 0 rfl rfl 0 (by decide) (hall _ kw_23) (fun _ h9 => h9) rfl dX0_assign_148 ?_
        refine xa_iald hx hb hK hP 2 0 rfl rfl (by omega) (by omega) dX0_assign_151 ?_
        refine lv_iload hx hb dX0_assign_152 (lv_at hl 0 rfl) ?_
        refine lv_isub hx hb dX0_assign_154 ?_
        refine tp_i (y := nI (r nD - (sm - pl + (r (d + 1) - cut)))) (pk_sub (by omega)) ?_
        refine lv_aload_n hx hb dX0_assign_155 rfl (lv_at hl 7 rfl) ?_
        refine va_get (D := (dC, dI)) (ci := 0) (v := .int (nI ec)) (C := RX0) (T := TX0) (N := 12) hx hb hall inX0 hown hK hP 0 rfl rfl 8 (by decide) (hall _ kw_31) (fun _ h9 => h9) rfl dX0_assign_156 ?_
        refine lv_iadd hx hb dX0_assign_159 ?_
        refine tp_i (y := nI (r nD - (sm - pl + (r (d + 1) - cut)) + ec)) (nI_add _ _) ?_
        refine lv_aload_n hx hb dX0_assign_160 rfl (lv_at hl 7 rfl) ?_
        refine va_get (D := (dC, dI)) (ci := 0) (v := .int (nI nR)) (C := RX0) (T := TX0) (N := 12) hx hb hall inX0 hown hK hP 0 rfl rfl 1 (by decide) (hall _ kw_24) (fun _ h9 => h9) rfl dX0_assign_161 ?_
        refine xc_le (tgt := 177) hx hb (by omega) (by omega) dX0_assign_164 (by decide) (fun c_18 => ?_) (fun c_18 => ?_)
        · refine lv_iload hx hb dX0_assign_177 (lv_at hl 2 rfl) ?_
          refine lv_iload hx hb dX0_assign_179 (lv_at hl 3 rfl) ?_
          refine lv_iadd hx hb dX0_assign_181 ?_
          refine tp_i (y := nI (pl + cut)) (nI_add _ _) ?_
          refine lv_iload hx hb dX0_assign_182 (lv_at hl 1 rfl) ?_
          refine lv_isub hx hb dX0_assign_184 ?_
          refine tp_i (y := nI (pl + cut - sm)) (pk_sub (by omega)) ?_
          refine lv_istore (lv' := [(13, .int (nI (pl + cut - sm))), (12, .int (nI (sm - pl + (r (d + 1) - cut)))), (11, .int (nI sm)), (10, .int (nI pl)), (9, .int (nI cut)), (8, .int (nI (r (d + 1)))), (7, .int (nI (r d))), (5, .long (now + (ed 0))), (0, .ref x), (1, .int (nI d)), (2, .int mo), (3, .long t)]) hx hb dX0_assign_185 hl (by decide) rfl (fun ls hl => ?_)
          refine lv_aload_n hx hb dX0_assign_187 rfl (lv_at hl 8 rfl) ?_
          refine lv_iload hx hb dX0_assign_188 (lv_at hl 2 rfl) ?_
          refine lv_iload hx hb dX0_assign_190 (lv_at hl 3 rfl) ?_
          refine lv_iload hx hb dX0_assign_192 (lv_at hl 4 rfl) ?_
          refine lv_iload hx hb dX0_assign_194 (lv_at hl 2 rfl) ?_
          refine lv_isub hx hb dX0_assign_196 ?_
          refine tp_i (y := nI (cut - sm)) (pk_sub (by omega)) ?_
          have hFc := va_free (wc := [(x, .inr (0, [.int (nI nD), .int (nI nR), .ref a1, .ref a2, .ref a3, .ref a4, .ref a5, .ref a6, .int (nI ec), .ref a7, .int (nI ac), .long now])), (a1, .inl (cJ, nD, .inr (.inl dv))), (a2, .inl (cI, nD + 1, .inl (fun j => nI (r j)))), (a3, .inl (cJ, cap, .inr (.inl ti))), (a4, .inl (cJ, cap, .inr (.inl va))), (a5, .inl (cJ, 16, .inr (.inl ev))), (a6, .inl (cJ, 16, .inr (.inl ed))), (a7, .inl (cI, nD, .inl ad))]) hD hS hA [0, 1, 2, 3, 4, 5, 6, 7] rfl
          refine va_callv (va_runV (As := [.int (nI sm), .int (nI pl), .int (nI (cut - sm))]) (rest := []) ⟨hx, hb, hml, hown, hall⟩ (c_moveTransactions l dC dI x a1 a2 a3 a4 a5 a6 a7 cI cJ nD nR dv r cap ti va ev ed ec ad ac now s.heap.size sm pl (cut - sm) (by omega) (by omega) hcap) (cwV 3 hall gX0_95 rfl rfl rfl (by decide +kernel) ⟨Nat.le_of_ble_eq_true rfl, Nat.le_of_ble_eq_true rfl⟩) ⟨xu_blind, va_recv hK hP (ci := 0) (q0 := 0) rfl rfl, fun U hU hW => ⟨rfl, by rw [hU], by rw [hU]; exact hP, va_K.moved hW.alike hK, hD.weaken (fun _ _ _ _ => trivial)⟩⟩ rfl rfl hl.1 rfl (lv_room (Nat.le_of_ble_eq_true rfl)) dX0_assign_197 ⟨Nat.le_of_ble_eq_true rfl, Nat.le_of_ble_eq_true rfl⟩) hS (fun q _ h => hFc q h) hFc (fun u9 t9 H1 locs ht hvm hw hB hz1 hk1 hS => ?_)
          obtain ⟨hP1, hK1, hD1⟩ := hB
          rw [ht] at hP1
          obtain ⟨hP, hD⟩ := va_join (wr := []) (w1 := [(x, .inr (0, [.int (nI nD), .int (nI nR), .ref a1, .ref a2, .ref a3, .ref a4, .ref a5, .ref a6, .int (nI ec), .ref a7, .int (nI ac), .long now])), (a1, .inl (cJ, nD, .inr (.inl dv))), (a2, .inl (cI, nD + 1, .inl (fun j => nI (r j)))), (a3, .inl (cJ, cap, .inr (.inl (va_cpy ti ti sm pl (cut - sm))))), (a4, .inl (cJ, cap, .inr (.inl (va_cpy va va sm pl (cut - sm))))), (a5, .inl (cJ, 16, .inr (.inl ev))), (a6, .inl (cJ, 16, .inr (.inl ed))), (a7, .inl (cI, nD, .inl ad))]) hP hD [0, 1, 2, 3, 4, 5, 6, 7] [] rfl rfl (by decide) (by decide) hk1 hFc hP1 hD1
          generalize H1 = H at hP hS ⊢
          have hP : va_P (dC, dI) vwCl [(x, .inr (0, [.int (nI nD), .int (nI nR), .ref a1, .ref a2, .ref a3, .ref a4, .ref a5, .ref a6, .int (nI ec), .ref a7, .int (nI ac), .long now])), (a1, .inl (cJ, nD, .inr (.inl dv))), (a2, .inl (cI, nD + 1, .inl (fun j => nI (r j)))), (a3, .inl (cJ, cap, .inr (.inl (va_cpy ti ti sm pl (cut - sm))))), (a4, .inl (cJ, cap, .inr (.inl (va_cpy va va sm pl (cut - sm))))), (a5, .inl (cJ, 16, .inr (.inl ev))), (a6, .inl (cJ, 16, .inr (.inl ed))), (a7, .inl (cI, nD, .inl ad))] H := hP
          have hD : va_D A [(x, .inr (0, [.int (nI nD), .int (nI nR), .ref a1, .ref a2, .ref a3, .ref a4, .ref a5, .ref a6, .int (nI ec), .ref a7, .int (nI ac), .long now])), (a1, .inl (cJ, nD, .inr (.inl dv))), (a2, .inl (cI, nD + 1, .inl (fun j => nI (r j)))), (a3, .inl (cJ, cap, .inr (.inl (va_cpy ti ti sm pl (cut - sm))))), (a4, .inl (cJ, cap, .inr (.inl (va_cpy va va sm pl (cut - sm))))), (a5, .inl (cJ, 16, .inr (.inl ev))), (a6, .inl (cJ, 16, .inr (.inl ed))), (a7, .inl (cI, nD, .inl ad))] := hD
          refine lv_aload_n hx hb dX0_assign_200 rfl (lv_at hl 8 rfl) ?_
          refine lv_iload_n hx hb dX0_assign_201 rfl (lv_at hl 9 rfl) ?_
          refine lv_iload hx hb dX0_assign_202 (lv_at hl 0 rfl) ?_
          refine lv_aload_n hx hb dX0_assign_204 rfl (lv_at hl 8 rfl) ?_
          refine va_get (D := (dC, dI)) (ci := 0) (v := .int (nI ec)) (C := RX0) (T := TX0) (N := 12) hx hb hall inX0 hown hK hP 0 rfl rfl 8 (by decide) (hall _ kw_31) (fun _ h9 => h9) rfl dX0_assign_205 ?_
          refine lv_iadd hx hb dX0_assign_208 ?_
          refine tp_i (y := nI (pl + cut - sm + ec)) (nI_add _ _) ?_
          have hFc := va_free (wc := [(x, .inr (0, [.int (nI nD), .int (nI nR), .ref a1, .ref a2, .ref a3, .ref a4, .ref a5, .ref a6, .int (nI ec), .ref a7, .int (nI ac), .long now])), (a1, .inl (cJ, nD, .inr (.inl dv))), (a2, .inl (cI, nD + 1, .inl (fun j => nI (r j)))), (a3, .inl (cJ, cap, .inr (.inl (va_cpy ti ti sm pl (cut - sm))))), (a4, .inl (cJ, cap, .inr (.inl (va_cpy va va sm pl (cut - sm))))), (a5, .inl (cJ, 16, .inr (.inl ev))), (a6, .inl (cJ, 16, .inr (.inl ed))), (a7, .inl (cI, nD, .inl ad))]) hD hS hA [0, 1, 2, 3, 4, 5, 6, 7] rfl
          refine va_callv (va_runV (As := [.int (nI d), .int (nI (pl + cut - sm + ec))]) (rest := []) ⟨hx, hb, hml, hown, hall⟩ (c_endRowAt l dC dI x a1 a2 a3 a4 a5 a6 a7 cI cJ nD nR dv r cap (va_cpy ti ti sm pl (cut - sm)) (va_cpy va va sm pl (cut - sm)) ev ed ec ad ac now H.size hI0 d (pl + cut - sm + ec) hd hq) (cwV 2 hall gX0_99 rfl rfl rfl (by decide +kernel) ⟨Nat.le_of_ble_eq_true rfl, Nat.le_of_ble_eq_true rfl⟩) ⟨xu_blind, va_recv hK hP (ci := 0) (q0 := 0) rfl rfl, fun U hU hW => ⟨rfl, by rw [hU], by rw [hU]; exact hP, va_K.moved hW.alike hK, hD.weaken (fun _ _ _ _ => trivial)⟩⟩ rfl rfl hl.1 rfl (lv_room (Nat.le_of_ble_eq_true rfl)) dX0_assign_209 ⟨Nat.le_of_ble_eq_true rfl, Nat.le_of_ble_eq_true rfl⟩) hS (fun q _ h => hFc q h) hFc (fun u9 t9 H1 locs ht hvm hw hB hz1 hk1 hS => ?_)
          obtain ⟨hP1, hK1, hD1⟩ := hB
          rw [ht] at hP1
          obtain ⟨hP, hD⟩ := va_join (wr := []) (w1 := [(x, .inr (0, [.int (nI nD), .int (nI nR), .ref a1, .ref a2, .ref a3, .ref a4, .ref a5, .ref a6, .int (nI ec), .ref a7, .int (nI ac), .long now])), (a1, .inl (cJ, nD, .inr (.inl dv))), (a2, .inl (cI, nD + 1, .inl (fun j => nI ((wf_sh r d (pl + cut - sm + ec) (r (d + 1)) (nD + 1)) j)))), (a3, .inl (cJ, cap, .inr (.inl (va_cpy (va_cpy ti ti sm pl (cut - sm)) (va_cpy ti ti sm pl (cut - sm)) (r (d + 1)) (pl + cut - sm + ec) (r nD - r (d + 1)))))), (a4, .inl (cJ, cap, .inr (.inl (va_cpy (va_cpy va va sm pl (cut - sm)) (va_cpy va va sm pl (cut - sm)) (r (d + 1)) (pl + cut - sm + ec) (r nD - r (d + 1)))))), (a5, .inl (cJ, 16, .inr (.inl ev))), (a6, .inl (cJ, 16, .inr (.inl ed))), (a7, .inl (cI, nD, .inl ad))]) hP hD [0, 1, 2, 3, 4, 5, 6, 7] [] rfl rfl (by decide) (by decide) hk1 hFc hP1 hD1
          generalize H1 = H at hP hS ⊢
          have hP : va_P (dC, dI) vwCl [(x, .inr (0, [.int (nI nD), .int (nI nR), .ref a1, .ref a2, .ref a3, .ref a4, .ref a5, .ref a6, .int (nI ec), .ref a7, .int (nI ac), .long now])), (a1, .inl (cJ, nD, .inr (.inl dv))), (a2, .inl (cI, nD + 1, .inl (fun j => nI ((wf_sh r d (pl + cut - sm + ec) (r (d + 1)) (nD + 1)) j)))), (a3, .inl (cJ, cap, .inr (.inl (va_cpy (va_cpy ti ti sm pl (cut - sm)) (va_cpy ti ti sm pl (cut - sm)) (r (d + 1)) (pl + cut - sm + ec) (r nD - r (d + 1)))))), (a4, .inl (cJ, cap, .inr (.inl (va_cpy (va_cpy va va sm pl (cut - sm)) (va_cpy va va sm pl (cut - sm)) (r (d + 1)) (pl + cut - sm + ec) (r nD - r (d + 1)))))), (a5, .inl (cJ, 16, .inr (.inl ev))), (a6, .inl (cJ, 16, .inr (.inl ed))), (a7, .inl (cI, nD, .inl ad))] H := hP
          have hD : va_D A [(x, .inr (0, [.int (nI nD), .int (nI nR), .ref a1, .ref a2, .ref a3, .ref a4, .ref a5, .ref a6, .int (nI ec), .ref a7, .int (nI ac), .long now])), (a1, .inl (cJ, nD, .inr (.inl dv))), (a2, .inl (cI, nD + 1, .inl (fun j => nI ((wf_sh r d (pl + cut - sm + ec) (r (d + 1)) (nD + 1)) j)))), (a3, .inl (cJ, cap, .inr (.inl (va_cpy (va_cpy ti ti sm pl (cut - sm)) (va_cpy ti ti sm pl (cut - sm)) (r (d + 1)) (pl + cut - sm + ec) (r nD - r (d + 1)))))), (a4, .inl (cJ, cap, .inr (.inl (va_cpy (va_cpy va va sm pl (cut - sm)) (va_cpy va va sm pl (cut - sm)) (r (d + 1)) (pl + cut - sm + ec) (r nD - r (d + 1)))))), (a5, .inl (cJ, 16, .inr (.inl ev))), (a6, .inl (cJ, 16, .inr (.inl ed))), (a7, .inl (cI, nD, .inl ad))] := hD
          refine lv_aload_n hx hb dX0_assign_212 rfl (lv_at hl 8 rfl) ?_
          refine lv_iload hx hb dX0_assign_213 (lv_at hl 0 rfl) ?_
          have hFc := va_free (wc := [(x, .inr (0, [.int (nI nD), .int (nI nR), .ref a1, .ref a2, .ref a3, .ref a4, .ref a5, .ref a6, .int (nI ec), .ref a7, .int (nI ac), .long now])), (a1, .inl (cJ, nD, .inr (.inl dv))), (a2, .inl (cI, nD + 1, .inl (fun j => nI ((wf_sh r d (pl + cut - sm + ec) (r (d + 1)) (nD + 1)) j)))), (a3, .inl (cJ, cap, .inr (.inl (va_cpy (va_cpy ti ti sm pl (cut - sm)) (va_cpy ti ti sm pl (cut - sm)) (r (d + 1)) (pl + cut - sm + ec) (r nD - r (d + 1)))))), (a4, .inl (cJ, cap, .inr (.inl (va_cpy (va_cpy va va sm pl (cut - sm)) (va_cpy va va sm pl (cut - sm)) (r (d + 1)) (pl + cut - sm + ec) (r nD - r (d + 1)))))), (a5, .inl (cJ, 16, .inr (.inl ev))), (a6, .inl (cJ, 16, .inr (.inl ed))), (a7, .inl (cI, nD, .inl ad))]) hD hS hA [0, 1, 2, 3, 4, 5, 6, 7] rfl
          refine va_callv (va_runV (As := [.int (nI (pl + cut - sm))]) (rest := []) ⟨hx, hb, hml, hown, hall⟩ (c_writeElements l dC dI x a1 a2 a3 a4 a5 a6 a7 cI cJ nD nR dv (wf_sh r d (pl + cut - sm + ec) (r (d + 1)) (nD + 1)) cap (va_cpy (va_cpy ti ti sm pl (cut - sm)) (va_cpy ti ti sm pl (cut - sm)) (r (d + 1)) (pl + cut - sm + ec) (r nD - r (d + 1))) (va_cpy (va_cpy va va sm pl (cut - sm)) (va_cpy va va sm pl (cut - sm)) (r (d + 1)) (pl + cut - sm + ec) (r nD - r (d + 1))) ev ed ec ad ac now H.size (pl + cut - sm) (by omega) hcap hec) (cwV 1 hall gX0_103 rfl rfl rfl (by decide +kernel) ⟨Nat.le_of_ble_eq_true rfl, Nat.le_of_ble_eq_true rfl⟩) ⟨xu_blind, va_recv hK hP (ci := 0) (q0 := 0) rfl rfl, fun U hU hW => ⟨rfl, by rw [hU], by rw [hU]; exact hP, va_K.moved hW.alike hK, hD.weaken (fun _ _ _ _ => trivial)⟩⟩ rfl rfl hl.1 rfl (lv_room (Nat.le_of_ble_eq_true rfl)) dX0_assign_215 ⟨Nat.le_of_ble_eq_true rfl, Nat.le_of_ble_eq_true rfl⟩) hS (fun q _ h => hFc q h) hFc (fun u9 t9 H1 locs ht hvm hw hB hz1 hk1 hS => ?_)
          obtain ⟨hP1, hK1, hD1⟩ := hB
          rw [ht] at hP1
          obtain ⟨hP, hD⟩ := va_join (wr := []) (w1 := [(x, .inr (0, [.int (nI nD), .int (nI nR), .ref a1, .ref a2, .ref a3, .ref a4, .ref a5, .ref a6, .int (nI ec), .ref a7, .int (nI ac), .long now])), (a1, .inl (cJ, nD, .inr (.inl dv))), (a2, .inl (cI, nD + 1, .inl (fun j => nI ((wf_sh r d (pl + cut - sm + ec) (r (d + 1)) (nD + 1)) j)))), (a3, .inl (cJ, cap, .inr (.inl (wf_pt (va_cpy (va_cpy ti ti sm pl (cut - sm)) (va_cpy ti ti sm pl (cut - sm)) (r (d + 1)) (pl + cut - sm + ec) (r nD - r (d + 1))) (pl + cut - sm) (fun i => now + ed i) ec)))), (a4, .inl (cJ, cap, .inr (.inl (wf_pt (va_cpy (va_cpy va va sm pl (cut - sm)) (va_cpy va va sm pl (cut - sm)) (r (d + 1)) (pl + cut - sm + ec) (r nD - r (d + 1))) (pl + cut - sm) ev ec)))), (a5, .inl (cJ, 16, .inr (.inl ev))), (a6, .inl (cJ, 16, .inr (.inl ed))), (a7, .inl (cI, nD, .inl ad))]) hP hD [0, 1, 2, 3, 4, 5, 6, 7] [] rfl rfl (by decide) (by decide) hk1 hFc hP1 hD1
          generalize H1 = H at hP hS ⊢
          have hP : va_P (dC, dI) vwCl [(x, .inr (0, [.int (nI nD), .int (nI nR), .ref a1, .ref a2, .ref a3, .ref a4, .ref a5, .ref a6, .int (nI ec), .ref a7, .int (nI ac), .long now])), (a1, .inl (cJ, nD, .inr (.inl dv))), (a2, .inl (cI, nD + 1, .inl (fun j => nI ((wf_sh r d (pl + cut - sm + ec) (r (d + 1)) (nD + 1)) j)))), (a3, .inl (cJ, cap, .inr (.inl (wf_pt (va_cpy (va_cpy ti ti sm pl (cut - sm)) (va_cpy ti ti sm pl (cut - sm)) (r (d + 1)) (pl + cut - sm + ec) (r nD - r (d + 1))) (pl + cut - sm) (fun i => now + ed i) ec)))), (a4, .inl (cJ, cap, .inr (.inl (wf_pt (va_cpy (va_cpy va va sm pl (cut - sm)) (va_cpy va va sm pl (cut - sm)) (r (d + 1)) (pl + cut - sm + ec) (r nD - r (d + 1))) (pl + cut - sm) ev ec)))), (a5, .inl (cJ, 16, .inr (.inl ev))), (a6, .inl (cJ, 16, .inr (.inl ed))), (a7, .inl (cI, nD, .inl ad))] H := hP
          have hD : va_D A [(x, .inr (0, [.int (nI nD), .int (nI nR), .ref a1, .ref a2, .ref a3, .ref a4, .ref a5, .ref a6, .int (nI ec), .ref a7, .int (nI ac), .long now])), (a1, .inl (cJ, nD, .inr (.inl dv))), (a2, .inl (cI, nD + 1, .inl (fun j => nI ((wf_sh r d (pl + cut - sm + ec) (r (d + 1)) (nD + 1)) j)))), (a3, .inl (cJ, cap, .inr (.inl (wf_pt (va_cpy (va_cpy ti ti sm pl (cut - sm)) (va_cpy ti ti sm pl (cut - sm)) (r (d + 1)) (pl + cut - sm + ec) (r nD - r (d + 1))) (pl + cut - sm) (fun i => now + ed i) ec)))), (a4, .inl (cJ, cap, .inr (.inl (wf_pt (va_cpy (va_cpy va va sm pl (cut - sm)) (va_cpy va va sm pl (cut - sm)) (r (d + 1)) (pl + cut - sm + ec) (r nD - r (d + 1))) (pl + cut - sm) ev ec)))), (a5, .inl (cJ, 16, .inr (.inl ev))), (a6, .inl (cJ, 16, .inr (.inl ed))), (a7, .inl (cI, nD, .inl ad))] := hD
          refine lv_aload_n hx hb dX0_assign_218 rfl (lv_at hl 8 rfl) ?_
          refine lv_iconst (v := 0) hx hb dX0_assign_219 (by decide) ?_
          refine tp_i (y := nI 0) nI_0.symm ?_
          refine va_put (D := (dC, dI)) (ci := 0) (v := .int (nI 0)) (ty := .int) (C := RX0) (T := TX0) (N := 12) hx hb hall inX0 tyX0 tyX0_ok nmX0 hown hK hP hD hS 0 rfl rfl 8 (by decide) (hall _ kw_31) (fun _ h9 => h9) rfl (by decide +kernel) rfl rfl (Nat.le_of_ble_eq_true rfl) dX0_assign_220 (fun H locs hP hD hS => ?_)
          have hP : va_P (dC, dI) vwCl [(x, .inr (0, [.int (nI nD), .int (nI nR), .ref a1, .ref a2, .ref a3, .ref a4, .ref a5, .ref a6, .int (nI 0), .ref a7, .int (nI ac), .long now])), (a1, .inl (cJ, nD, .inr (.inl dv))), (a2, .inl (cI, nD + 1, .inl (fun j => nI ((wf_sh r d (pl + cut - sm + ec) (r (d + 1)) (nD + 1)) j)))), (a3, .inl (cJ, cap, .inr (.inl (wf_pt (va_cpy (va_cpy ti ti sm pl (cut - sm)) (va_cpy ti ti sm pl (cut - sm)) (r (d + 1)) (pl + cut - sm + ec) (r nD - r (d + 1))) (pl + cut - sm) (fun i => now + ed i) ec)))), (a4, .inl (cJ, cap, .inr (.inl (wf_pt (va_cpy (va_cpy va va sm pl (cut - sm)) (va_cpy va va sm pl (cut - sm)) (r (d + 1)) (pl + cut - sm + ec) (r nD - r (d + 1))) (pl + cut - sm) ev ec)))), (a5, .inl (cJ, 16, .inr (.inl ev))), (a6, .inl (cJ, 16, .inr (.inl ed))), (a7, .inl (cI, nD, .inl ad))] H := hP
          have hD : va_D A [(x, .inr (0, [.int (nI nD), .int (nI nR), .ref a1, .ref a2, .ref a3, .ref a4, .ref a5, .ref a6, .int (nI 0), .ref a7, .int (nI ac), .long now])), (a1, .inl (cJ, nD, .inr (.inl dv))), (a2, .inl (cI, nD + 1, .inl (fun j => nI ((wf_sh r d (pl + cut - sm + ec) (r (d + 1)) (nD + 1)) j)))), (a3, .inl (cJ, cap, .inr (.inl (wf_pt (va_cpy (va_cpy ti ti sm pl (cut - sm)) (va_cpy ti ti sm pl (cut - sm)) (r (d + 1)) (pl + cut - sm + ec) (r nD - r (d + 1))) (pl + cut - sm) (fun i => now + ed i) ec)))), (a4, .inl (cJ, cap, .inr (.inl (wf_pt (va_cpy (va_cpy va va sm pl (cut - sm)) (va_cpy va va sm pl (cut - sm)) (r (d + 1)) (pl + cut - sm + ec) (r nD - r (d + 1))) (pl + cut - sm) ev ec)))), (a5, .inl (cJ, 16, .inr (.inl ev))), (a6, .inl (cJ, 16, .inr (.inl ed))), (a7, .inl (cI, nD, .inl ad))] := hD
          refine lv_iload hx hb dX0_assign_223 (lv_at hl 1 rfl) ?_
          exact W.iret (v := nI (sm - pl + (r (d + 1) - cut))) hx hb hr (fun t9 ht hW => ⟨⟨nI (sm - pl + (r (d + 1) - cut)), (), rfl, rfl, by rw [ht]; exact hP, va_K.moved hW.alike hK, hD⟩, hS.F ht⟩) hS.2.2 dX0_assign_225
        · exact absurd c_18 (by omega)
      · exact absurd c_9 (by decide)
  · exact absurd c_3 (by omega)
end
section
section XA2
variable {p : Program} {l : Launch} {e : Env} {R : Room} {s : State} {m : MethodId} {args : Array Value} {below : List Frame} {meth : Method} {c : Code} {H : Heap} {locs : List Loc} {cells slots : Nat} {Q : State → Prop}
variable {cc : ByteArray} {pc : Nat} {ls : Array Slot} {rest : List Value} {D : va_G} {cl : List vw_C} {ws : va_W} {tys : List (ClassId × FieldType)} {A : Nat → Prop} {H0 : Heap} {a b : Nat}
theorem xa_copyl2 {own : String} {index : Nat} (hx : p.tables.exec = Jvm.exec) (hb : c.code = cc) (hml : c.maxLocals = ls.size) (hown : s.vm.findClass own = some m.cls) (hlink : (Cond.methodLink own index arraycopyName).before args s = true) (hnat : (Cond.native arraycopyName).before args s = true) (hstat : (Cond.static arraycopyName).before args s = true) (hini : (Cond.initialized "java/lang/System").before args s = true)
    (hK : va_K D cl tys s) (hP : va_P D cl ws H) (hD : va_D A ws) (hS : va_S A H0 H locs) (q0 q1 t0 : Nat) {c0 : ClassId} {N N1 : Nat} {f g : Nat → Int64} (ha0 : ws[q0]? = some (a, .inl (c0, N, .inr (.inl f)))) (ha1 : ws[q1]? = some (b, .inl (c0, N1, .inr (.inl g)))) (ht0 : tys[t0]? = some (c0, .long)) {sp dp n : Nat} (h4 : sp + n ≤ N) (h5 : dp + n ≤ N1) (hN : N < 2 ^ 31) (hN1 : N1 < 2 ^ 31)
    (hframes : 1 ≤ R.frames) (hlocals : (rest.map fun v => v.category).sum + (nativeFrameWords "java/lang/System" "arraycopy" 5 + 11) ≤ R.locals) (hdg : decode cc pc = .ok (.invokestatic index, 3))
    (kk : ∀ (H1 : Heap) (locs1 : List Loc), va_P D cl (ws.set q1 (b, .inl (c0, N1, .inr (.inl (va_cpy f g sp dp n))))) H1 → va_D A (ws.set q1 (b, .inl (c0, N1, .inr (.inl (va_cpy f g sp dp n))))) → va_S A H0 H1 locs1 → W p l e R s m args below meth c H1 locs1 cells slots Q (F0 m (pc + 3) ls rest)) : W p l e R s m args below meth c H locs cells slots Q (F0 m pc ls (.int (nI n) :: .int (nI dp) :: .ref b :: .int (nI sp) :: .ref a :: rest)) := by
  have e1 := nI_clamp (n := sp) (by omega)
  have e2 := nI_clamp (n := dp) (by omega)
  have e3 := nI_clamp (n := n) (by omega)
  refine va_copyl hx hb hml hown hlink hnat hstat hini hK hP hD hS q0 q1 t0 t0 ha0 ha1 ht0 ht0 rfl (nI_pos (by omega)) (nI_pos (by omega)) (nI_pos (by omega)) (by rw [e1, e3]; exact h4) (by rw [e2, e3]; exact h5) (fun _ _ => rfl) hframes hlocals hdg ?_
  rw [e1, e2, e3]
  exact kk
theorem xa_newl (hx : p.tables.exec = Jvm.exec) (hb : c.code = cc) (harr : (Cond.arrayClass .long).before args s = true) (hK : va_K D cl tys s) (hP : va_P D cl ws H) (hD : va_D A ws) (hS : va_S A H0 H locs) (hA : ∀ q, H0.size ≤ q → A q)
    {N : Nat} (hN : N ≤ 65536) (hcells : cells + 1 ≤ R.cells) (hslots : slots + N ≤ R.slots) (hdg : decode cc pc = .ok (.newarray .long, 2))
    (kk : ∀ (q : Nat) (cA : ClassId) (H1 : Heap), va_K D cl (tys ++ [(cA, .long)]) s → va_P D cl (ws ++ [(q, .inl (cA, N, .inr (.inl (fun _ => 0))))]) H1 → va_D A (ws ++ [(q, .inl (cA, N, .inr (.inl (fun _ => 0))))]) → va_S A H0 H1 locs →
      W p l e R s m args below meth c H1 locs (cells + 1) (slots + N) Q (F0 m (pc + 2) ls (.ref q :: rest))) : W p l e R s m args below meth c H locs cells slots Q (F0 m pc ls (.int (nI N) :: rest)) :=
  va_newa (atype := .long) (ty := .long) (N' := N) (a0 := (N, .inr (.inl (fun _ => 0)))) hx hb harr rfl hK hP hD hS hA (fun _ => rfl) (nI_pos (by omega)) (nI_clamp (by omega)) (by show N * 8 ≤ 536870912; omega) hcells hslots hdg kk
theorem xa_newi (hx : p.tables.exec = Jvm.exec) (hb : c.code = cc) (harr : (Cond.arrayClass .int).before args s = true) (hK : va_K D cl tys s) (hP : va_P D cl ws H) (hD : va_D A ws) (hS : va_S A H0 H locs) (hA : ∀ q, H0.size ≤ q → A q)
    {N : Nat} (hN : N ≤ 65536) (hcells : cells + 1 ≤ R.cells) (hslots : slots + N ≤ R.slots) (hdg : decode cc pc = .ok (.newarray .int, 2))
    (kk : ∀ (q : Nat) (cA : ClassId) (H1 : Heap), va_K D cl (tys ++ [(cA, .int)]) s → va_P D cl (ws ++ [(q, .inl (cA, N, .inl (fun _ => 0)))]) H1 → va_D A (ws ++ [(q, .inl (cA, N, .inl (fun _ => 0)))]) → va_S A H0 H1 locs →
      W p l e R s m args below meth c H1 locs (cells + 1) (slots + N) Q (F0 m (pc + 2) ls (.ref q :: rest))) : W p l e R s m args below meth c H locs cells slots Q (F0 m pc ls (.int (nI N) :: rest)) :=
  va_newa (atype := .int) (ty := .int) (N' := N) (a0 := (N, .inl (fun _ => 0))) hx hb harr rfl hK hP hD hS hA (fun _ => rfl) (nI_pos (by omega)) (nI_clamp (by omega)) (by show N * 4 ≤ 536870912; omega) hcells hslots hdg kk
end XA2
/-- what a constructor makes of a number: the number itself from 1 to M, else df -/
def wf_in (i M : Int32) (mx df n : Nat) : Prop := (¬ i < 1 ∧ ¬ M < i ∧ i = nI n ∧ 1 ≤ n ∧ n ≤ mx) ∨ ((i < 1 ∨ M < i) ∧ n = df)
theorem wf_in_ex (i M : Int32) (mx df : Nat) (hM : M = nI mx) (hm : mx < 2 ^ 31) : ∃ n, wf_in i M mx df n := by
  by_cases h1 : i < 1
  · exact ⟨df, Or.inr ⟨Or.inl h1, rfl⟩⟩
  · by_cases h2 : M < i
    · exact ⟨df, Or.inr ⟨Or.inr h2, rfl⟩⟩
    · have h0 : ¬ i < 0 := fun q => h1 (Int32.lt_trans q (by decide))
      obtain ⟨j, hj, rfl⟩ := nI_of h0
      refine ⟨j, Or.inl ⟨h1, h2, rfl, ?_, ?_⟩⟩
      · rcases Nat.eq_zero_or_pos j with q | q
        · subst q; exact absurd (by decide) h1
        · exact q
      · subst hM
        exact Nat.le_of_not_lt fun q => h2 ((nI_ltI hm hj).mpr q)
end
section
set_option maxHeartbeats 4000000 in
set_option maxRecDepth 100000 in
theorem c_copyOf (l : Launch) (dC : Nat → ClassId) (dI : Nat → Nat → Nat) (a : Nat) (cJ : ClassId) (N q : Nat) (f : Nat → Int64) (sz : Nat) (h1 : N < q) (h2 : q ≤ 8192) : Met l yJ7_copyOf wsJ7_copyOf ({ frames := 1, cells := 1, slots := q, locals := 60 }) (va_Pc [.ref a, .int (nI q)] (fun U => U.heap.size = sz ∧ va_P (dC, dI) vwCl [(a, .inl (cJ, N, .inr (.inl f)))] U.heap ∧ va_K (dC, dI) vwCl [(cJ, .long)] U ∧ va_D (fun _ => True) [(a, .inl (cJ, N, .inr (.inl f)))])) (va_Qr (fun _ : Unit => True) (fun _ b t9 => va_P (dC, dI) vwCl [(a, .inl (cJ, N, .inr (.inl f))), (b, .inl (cJ, q, .inr (.inl (va_cpy f (fun _ => 0) 0 0 N))))] t9.heap ∧ va_K (dC, dI) vwCl [(cJ, .long)] t9 ∧ va_D (va_A [(a, .inl (cJ, N, .inr (.inl f)))] sz) [(a, .inl (cJ, N, .inr (.inl f))), (b, .inl (cJ, q, .inr (.inl (va_cpy f (fun _ => 0) 0 0 N))))]) (va_A [(a, .inl (cJ, N, .inr (.inl f)))] sz)) 1 q (va_A [(a, .inl (cJ, N, .inr (.inl f)))] sz) := by
  refine Met.ofW (cc := cJ7_copyOf) (maxL := 3) (ret := (some (.array .long))) (by decide) rfl ?_
  intro p e s m args below meth c s₁ B hml hv
  obtain ⟨rfl, hsz, hP, hK, hD0⟩ := hv
  subst hsz
  have hD := hD0.self (sz := s.heap.size)
  generalize hAe : va_A [(a, .inl (cJ, N, .inr (.inl f)))] s.heap.size = A at hD ⊢
  have hA : ∀ q : Nat, s.heap.size ≤ q → A q := fun q h => by rw [← hAe]; exact Or.inr h
  have hS : va_S A s.heap s.heap [] := va_S.rf
  have hx := B.exec
  have hb := B.bytes
  have hr := B.returns
  have hts := atoms_spec (ws := wsJ7_copyOf) B.pre
  have hown : s.vm.findClass RJ7 = some m.cls := findClass_of_methodNamed B.named
  have hlocks := B.notSynchronized
  have hall := fun (w : Cond) (h : w ∈ allw) => hts w (List.mem_cons_of_mem _ h)
  have hl := lv_entry ([.ref a, .int (nI q)]) (n := 3) (Nat.le_of_ble_eq_true rfl)
  rw [lg_entry_eq]
  generalize (lg_sl ([.ref a, .int (nI q)]) ++ List.replicate (3 - (lg_sl ([.ref a, .int (nI q)])).length) Slot.unset).toArray = ls at hl ⊢
  have hl : lv_has ls 3 [(0, .ref a), (1, .int (nI q))] := hl
  refine lv_iload_n hx hb dJ7_copyOf_0 rfl (lv_at hl 1 rfl) ?_
  refine lv_aload_n hx hb dJ7_copyOf_1 rfl (lv_at hl 0 rfl) ?_
  refine va_alen (v := nI N) hx hb hK hP 0 0 rfl rfl rfl dJ7_copyOf_2 ?_
  refine lv_icmp_ne (tgt := 14) hx hb dJ7_copyOf_3 (by decide) (fun c_1 => ?_) (fun c_1 => ?_)
  · refine lv_iload_n hx hb dJ7_copyOf_14 rfl (lv_at hl 1 rfl) ?_
    refine xa_newl hx hb (hall _ kw_60) hK hP hD hS hA (by omega) (Nat.le_of_ble_eq_true rfl) (by show 0 + q ≤ q; omega) dJ7_copyOf_15 (fun b cA H hK hP hD hS => ?_)
    obtain rfl : cJ = cA := xk_sameL hK (t1 := 0) (t2 := 1) rfl rfl
    have hP : va_P (dC, dI) vwCl [(a, .inl (cJ, N, .inr (.inl f))), (b, .inl (cJ, q, .inr (.inl (fun _ => 0))))] H := hP
    have hD : va_D A [(a, .inl (cJ, N, .inr (.inl f))), (b, .inl (cJ, q, .inr (.inl (fun _ => 0))))] := hD
    refine W.widen (k := 1) (n := q) (by omega) (by omega) ?_
    refine lv_astore_n (lv' := [(2, .ref b), (0, .ref a), (1, .int (nI q))]) hx hb dJ7_copyOf_17 rfl hl (by decide) rfl (fun ls hl => ?_)
    refine lv_aload_n hx hb dJ7_copyOf_18 rfl (lv_at hl 1 rfl) ?_
    refine lv_iconst (v := 0) hx hb dJ7_copyOf_19 (by decide) ?_
    refine tp_i (y := nI 0) nI_0.symm ?_
    refine lv_aload_n hx hb dJ7_copyOf_20 rfl (lv_at hl 0 rfl) ?_
    refine lv_iconst (v := 0) hx hb dJ7_copyOf_21 (by decide) ?_
    refine tp_i (y := nI 0) nI_0.symm ?_
    refine lv_aload_n hx hb dJ7_copyOf_22 rfl (lv_at hl 1 rfl) ?_
    refine va_alen (v := nI N) hx hb hK hP 0 0 rfl rfl rfl dJ7_copyOf_23 ?_
    refine lv_iload_n hx hb dJ7_copyOf_24 rfl (lv_at hl 2 rfl) ?_
    refine va_mmin hx hb (hml.trans hl.1.symm) hown (hall _ kw_266) (hall _ kw_21) (hall _ kw_2) (hall _ kw_22) (Nat.le_of_ble_eq_true rfl) (Nat.le_of_ble_eq_true rfl) (Nat.le_refl _) (Nat.le_refl _) dJ7_copyOf_25 ?_
    refine tp_i (y := nI N) ((xm_min (by omega) (by omega)).trans (by rw [Nat.min_eq_left (by omega)])) ?_
    refine xa_copyl2 (sp := 0) (dp := 0) (n := N) hx hb (hml.trans hl.1.symm) hown (hall _ kw_267) (hall _ kw_244) (hall _ kw_243) (hall _ kw_10) hK hP hD hS 0 1 0 rfl rfl rfl (by omega) (by omega) (by omega) (by omega) (Nat.le_of_ble_eq_true rfl) (Nat.le_of_ble_eq_true rfl) dJ7_copyOf_28 (fun H locs hP hD hS => ?_)
    have hP : va_P (dC, dI) vwCl [(a, .inl (cJ, N, .inr (.inl f))), (b, .inl (cJ, q, .inr (.inl (va_cpy f (fun _ => 0) 0 0 N))))] H := hP
    have hD : va_D A [(a, .inl (cJ, N, .inr (.inl f))), (b, .inl (cJ, q, .inr (.inl (va_cpy f (fun _ => 0) 0 0 N))))] := hD
    refine lv_aload_n hx hb dJ7_copyOf_31 rfl (lv_at hl 0 rfl) ?_
    exact W.aret (v := .ref b) hx hb hr (Or.inr ⟨_, rfl⟩) (Or.inr ⟨_, rfl⟩) (fun t9 ht hW => ⟨⟨(), b, rfl, trivial, by rw [ht]; exact hP, (va_K.moved hW.alike hK).sub [0] rfl, hD⟩, hS.F ht⟩) hS.2.2 dJ7_copyOf_32
  · exact absurd ((nI_eq (by omega) (by omega)).mp c_1) (by omega)
set_option maxHeartbeats 4000000 in
set_option maxRecDepth 100000 in
theorem c_makePlaces2 (l : Launch) (dC : Nat → ClassId) (dI : Nat → Nat → Nat) (x a1 a2 a3 a4 a5 a6 a7 : Nat) (cI cJ : ClassId) (nD nR : Nat) (dv : Nat → Int64) (r : Nat → Nat) (cap : Nat) (ti va ev ed : Nat → Int64) (ec : Nat) (ad : Nat → Int32) (ac : Nat) (now : Int64) (sz : Nat) (q : Nat) (hq : cap < q) (hqR : q ≤ nR) (hnR : nR ≤ 8192) (np : Nat) (hnp : np = max q (min nR (2 * cap))) : Met l yX0_makePlaces wsX0_makePlaces ({ frames := 2, cells := 2, slots := 2 * np, locals := 82 }) (va_Pc [.ref x, .int (nI q)] (fun U => U.heap.size = sz ∧ va_P (dC, dI) vwCl (wr x a1 a2 a3 a4 a5 a6 a7 cI cJ nD nR dv r cap ti va ev ed ec ad ac now) U.heap ∧ va_K (dC, dI) vwCl [(cI, .int), (cJ, .long)] U ∧ va_D (fun _ => True) (wr x a1 a2 a3 a4 a5 a6 a7 cI cJ nD nR dv r cap ti va ev ed ec ad ac now))) (va_Qv (fun _ : Unit => True) (fun _ t9 => ∃ b3 b4 : Nat, va_P (dC, dI) vwCl (wr x a1 a2 b3 b4 a5 a6 a7 cI cJ nD nR dv r np (va_cpy ti (fun _ => 0) 0 0 cap) (va_cpy va (fun _ => 0) 0 0 cap) ev ed ec ad ac now) t9.heap ∧ va_K (dC, dI) vwCl [(cI, .int), (cJ, .long)] t9 ∧ va_D (va_A (wr x a1 a2 a3 a4 a5 a6 a7 cI cJ nD nR dv r cap ti va ev ed ec ad ac now) sz) (wr x a1 a2 b3 b4 a5 a6 a7 cI cJ nD nR dv r np (va_cpy ti (fun _ => 0) 0 0 cap) (va_cpy va (fun _ => 0) 0 0 cap) ev ed ec ad ac now)) (va_A (wr x a1 a2 a3 a4 a5 a6 a7 cI cJ nD nR dv r cap ti va ev ed ec ad ac now) sz)) 2 (2 * np) (va_A (wr x a1 a2 a3 a4 a5 a6 a7 cI cJ nD nR dv r cap ti va ev ed ec ad ac now) sz) := by
  refine Met.ofW (cc := cX0_makePlaces) (maxL := 3) (ret := none) (by decide) rfl ?_
  intro p e s m args below meth c s₁ B hml hv
  obtain ⟨rfl, hsz, hP, hK, hD0⟩ := hv
  subst hsz
  have hD := hD0.self (sz := s.heap.size)
  generalize hAe : va_A (wr x a1 a2 a3 a4 a5 a6 a7 cI cJ nD nR dv r cap ti va ev ed ec ad ac now) s.heap.size = A at hD ⊢
  have hA : ∀ q : Nat, s.heap.size ≤ q → A q := fun q h => by rw [← hAe]; exact Or.inr h
  have hS : va_S A s.heap s.heap [] := va_S.rf
  have hx := B.exec
  have hb := B.bytes
  have hr := B.returns
  have hts := atoms_spec (ws := wsX0_makePlaces) B.pre
  have hown : s.vm.findClass RX0 = some m.cls := findClass_of_methodNamed B.named
  have hlocks := B.notSynchronized
  have hall := fun (w : Cond) (h : w ∈ allw) => hts w (List.mem_cons_of_mem _ h)
  have hl := lv_entry ([.ref x, .int (nI q)]) (n := 3) (Nat.le_of_ble_eq_true rfl)
  rw [lg_entry_eq]
  generalize (lg_sl ([.ref x, .int (nI q)]) ++ List.replicate (3 - (lg_sl ([.ref x, .int (nI q)])).length) Slot.unset).toArray = ls at hl ⊢
  have hl : lv_has ls 3 [(0, .ref x), (1, .int (nI q))] := hl
  have hnp1 : cap < np := by omega
  have hnp2 : np ≤ 8192 := by omega
  refine lv_iload_n hx hb dX0_makePlaces_0 rfl (lv_at hl 1 rfl) ?_
  refine lv_aload_n hx hb dX0_makePlaces_1 rfl (lv_at hl 0 rfl) ?_
  refine va_get (D := (dC, dI)) (ci := 0) (v := .ref a3) (C := RX0) (T := TX0) (N := 12) hx hb hall inX0 hown hK hP 0 rfl rfl 4 (by decide) (hall _ kw_27) (fun _ h9 => h9) rfl dX0_makePlaces_2 ?_
  refine va_alen (v := nI cap) hx hb hK hP 3 1 rfl rfl rfl dX0_makePlaces_5 ?_
  refine xc_gt (tgt := 10) hx hb (by omega) (by omega) dX0_makePlaces_6 (by decide) (fun c_1 => ?_) (fun c_1 => ?_)
  · refine lv_iload_n hx hb dX0_makePlaces_10 rfl (lv_at hl 1 rfl) ?_
    refine lv_aload_n hx hb dX0_makePlaces_11 rfl (lv_at hl 0 rfl) ?_
    refine va_get (D := (dC, dI)) (ci := 0) (v := .int (nI nR)) (C := RX0) (T := TX0) (N := 12) hx hb hall inX0 hown hK hP 0 rfl rfl 1 (by decide) (hall _ kw_24) (fun _ h9 => h9) rfl dX0_makePlaces_12 ?_
    refine lv_iconst (v := 2) hx hb dX0_makePlaces_15 (by decide) ?_
    refine tp_i (y := nI 2) (by decide) ?_
    refine lv_aload_n hx hb dX0_makePlaces_16 rfl (lv_at hl 0 rfl) ?_
    refine va_get (D := (dC, dI)) (ci := 0) (v := .ref a3) (C := RX0) (T := TX0) (N := 12) hx hb hall inX0 hown hK hP 0 rfl rfl 4 (by decide) (hall _ kw_27) (fun _ h9 => h9) rfl dX0_makePlaces_17 ?_
    refine va_alen (v := nI cap) hx hb hK hP 3 1 rfl rfl rfl dX0_makePlaces_20 ?_
    refine lv_imul hx hb dX0_makePlaces_21 ?_
    refine tp_i (y := nI (2 * cap)) (pk_mul 2 cap) ?_
    refine va_mmin hx hb (hml.trans hl.1.symm) hown (hall _ kw_20) (hall _ kw_21) (hall _ kw_2) (hall _ kw_22) (Nat.le_of_ble_eq_true rfl) (Nat.le_of_ble_eq_true rfl) (Nat.zero_le _) (Nat.zero_le _) dX0_makePlaces_22 ?_
    refine tp_i (y := nI (min nR (2 * cap))) (xm_min (by omega) (by omega)) ?_
    refine va_mmax hx hb (hml.trans hl.1.symm) hown (hall _ kw_253) (hall _ kw_254) (hall _ kw_2) (hall _ kw_255) (Nat.le_of_ble_eq_true rfl) (Nat.le_of_ble_eq_true rfl) (Nat.zero_le _) (Nat.zero_le _) dX0_makePlaces_25 ?_
    refine tp_i (y := nI np) ((xm_max (by omega) (by omega)).trans (by rw [hnp])) ?_
    refine lv_istore_n (lv' := [(2, .int (nI np)), (0, .ref x), (1, .int (nI q))]) hx hb dX0_makePlaces_28 rfl hl (by decide) rfl (fun ls hl => ?_)
    refine lv_aload_n hx hb dX0_makePlaces_29 rfl (lv_at hl 1 rfl) ?_
    refine lv_aload_n hx hb dX0_makePlaces_30 rfl (lv_at hl 1 rfl) ?_
    refine va_get (D := (dC, dI)) (ci := 0) (v := .ref a3) (C := RX0) (T := TX0) (N := 12) hx hb hall inX0 hown hK hP 0 rfl rfl 4 (by decide) (hall _ kw_27) (fun _ h9 => h9) rfl dX0_makePlaces_31 ?_
    refine lv_iload_n hx hb dX0_makePlaces_34 rfl (lv_at hl 0 rfl) ?_
    have hPc := hP.sub (ws' := [(a3, .inl (cJ, cap, .inr (.inl ti)))]) [3] rfl
    have hDc := hD.sub (ws' := [(a3, .inl (cJ, cap, .inr (.inl ti)))]) [3] (by decide) rfl
    have hKc := hK.sub (tys' := [(cJ, .long)]) [1] rfl
    have hFc := va_free (wc := [(a3, .inl (cJ, cap, .inr (.inl ti)))]) hD hS hA [3] rfl
    refine va_callr (va_runS (As := [.ref a3, .int (nI np)]) (rest := [.ref x]) ⟨hx, hb, hml, hown, hall⟩ (c_copyOf l dC dI a3 cJ cap np ti s.heap.size hnp1 hnp2) (va_cwS 2 hall gX0_141 rfl rfl rfl (by decide +kernel) ⟨Nat.le_of_ble_eq_true rfl, Nat.le_of_ble_eq_true rfl⟩) ⟨xu_blind, fun U hU hW => ⟨rfl, by rw [hU], by rw [hU]; exact hPc, va_K.moved hW.alike hKc, hDc.weaken (fun _ _ _ _ => trivial)⟩⟩ rfl rfl hl.1 rfl (lv_room (Nat.le_of_ble_eq_true rfl)) dX0_makePlaces_35 ⟨by show _ ≤ 2; omega, by show _ ≤ 2 * np; omega⟩) hS (fun q _ h => hFc q h) hFc (fun u9 b3 t9 H1 locs ht hvm hw hB hz1 hk1 hS => ?_)
    obtain ⟨hP1, hK1, hD1⟩ := hB
    rw [ht] at hP1
    obtain ⟨hP, hD⟩ := va_join (wr := [(x, .inr (0, [.int (nI nD), .int (nI nR), .ref a1, .ref a2, .ref a3, .ref a4, .ref a5, .ref a6, .int (nI ec), .ref a7, .int (nI ac), .long now])), (a1, .inl (cJ, nD, .inr (.inl dv))), (a2, .inl (cI, nD + 1, .inl (fun j => nI (r j)))), (a4, .inl (cJ, cap, .inr (.inl va))), (a5, .inl (cJ, 16, .inr (.inl ev))), (a6, .inl (cJ, 16, .inr (.inl ed))), (a7, .inl (cI, nD, .inl ad))]) (w1 := [(a3, .inl (cJ, cap, .inr (.inl ti))), (b3, .inl (cJ, np, .inr (.inl (va_cpy ti (fun _ => 0) 0 0 cap))))]) hP hD [3] [0, 1, 2, 4, 5, 6, 7] rfl rfl (by decide) (by decide) hk1 hFc hP1 hD1
    generalize H1 = H at hP hS ⊢
    have hP : va_P (dC, dI) vwCl [(x, .inr (0, [.int (nI nD), .int (nI nR), .ref a1, .ref a2, .ref a3, .ref a4, .ref a5, .ref a6, .int (nI ec), .ref a7, .int (nI ac), .long now])), (a1, .inl (cJ, nD, .inr (.inl dv))), (a2, .inl (cI, nD + 1, .inl (fun j => nI (r j)))), (a4, .inl (cJ, cap, .inr (.inl va))), (a5, .inl (cJ, 16, .inr (.inl ev))), (a6, .inl (cJ, 16, .inr (.inl ed))), (a7, .inl (cI, nD, .inl ad)), (a3, .inl (cJ, cap, .inr (.inl ti))), (b3, .inl (cJ, np, .inr (.inl (va_cpy ti (fun _ => 0) 0 0 cap))))] H := hP
    have hD : va_D A [(x, .inr (0, [.int (nI nD), .int (nI nR), .ref a1, .ref a2, .ref a3, .ref a4, .ref a5, .ref a6, .int (nI ec), .ref a7, .int (nI ac), .long now])), (a1, .inl (cJ, nD, .inr (.inl dv))), (a2, .inl (cI, nD + 1, .inl (fun j => nI (r j)))), (a4, .inl (cJ, cap, .inr (.inl va))), (a5, .inl (cJ, 16, .inr (.inl ev))), (a6, .inl (cJ, 16, .inr (.inl ed))), (a7, .inl (cI, nD, .inl ad)), (a3, .inl (cJ, cap, .inr (.inl ti))), (b3, .inl (cJ, np, .inr (.inl (va_cpy ti (fun _ => 0) 0 0 cap))))] := hD
    refine va_put (D := (dC, dI)) (ci := 0) (v := .ref b3) (ty := (.array .long)) (C := RX0) (T := TX0) (N := 12) hx hb hall inX0 tyX0 tyX0_ok nmX0 hown hK hP hD hS 0 rfl rfl 4 (by decide) (hall _ kw_27) (fun _ h9 => h9) rfl (by decide +kernel) rfl rfl (Nat.le_of_ble_eq_true rfl) dX0_makePlaces_38 (fun H locs hP hD hS => ?_)
    have hP : va_P (dC, dI) vwCl [(x, .inr (0, [.int (nI nD), .int (nI nR), .ref a1, .ref a2, .ref b3, .ref a4, .ref a5, .ref a6, .int (nI ec), .ref a7, .int (nI ac), .long now])), (a1, .inl (cJ, nD, .inr (.inl dv))), (a2, .inl (cI, nD + 1, .inl (fun j => nI (r j)))), (a4, .inl (cJ, cap, .inr (.inl va))), (a5, .inl (cJ, 16, .inr (.inl ev))), (a6, .inl (cJ, 16, .inr (.inl ed))), (a7, .inl (cI, nD, .inl ad)), (a3, .inl (cJ, cap, .inr (.inl ti))), (b3, .inl (cJ, np, .inr (.inl (va_cpy ti (fun _ => 0) 0 0 cap))))] H := hP
    have hD : va_D A [(x, .inr (0, [.int (nI nD), .int (nI nR), .ref a1, .ref a2, .ref b3, .ref a4, .ref a5, .ref a6, .int (nI ec), .ref a7, .int (nI ac), .long now])), (a1, .inl (cJ, nD, .inr (.inl dv))), (a2, .inl (cI, nD + 1, .inl (fun j => nI (r j)))), (a4, .inl (cJ, cap, .inr (.inl va))), (a5, .inl (cJ, 16, .inr (.inl ev))), (a6, .inl (cJ, 16, .inr (.inl ed))), (a7, .inl (cI, nD, .inl ad)), (a3, .inl (cJ, cap, .inr (.inl ti))), (b3, .inl (cJ, np, .inr (.inl (va_cpy ti (fun _ => 0) 0 0 cap))))] := hD
    refine lv_aload_n hx hb dX0_makePlaces_41 rfl (lv_at hl 1 rfl) ?_
    refine lv_aload_n hx hb dX0_makePlaces_42 rfl (lv_at hl 1 rfl) ?_
    refine va_get (D := (dC, dI)) (ci := 0) (v := .ref a4) (C := RX0) (T := TX0) (N := 12) hx hb hall inX0 hown hK hP 0 rfl rfl 5 (by decide) (hall _ kw_28) (fun _ h9 => h9) rfl dX0_makePlaces_43 ?_
    refine lv_iload_n hx hb dX0_makePlaces_46 rfl (lv_at hl 0 rfl) ?_
    have hPc := hP.sub (ws' := [(a4, .inl (cJ, cap, .inr (.inl va)))]) [3] rfl
    have hDc := hD.sub (ws' := [(a4, .inl (cJ, cap, .inr (.inl va)))]) [3] (by decide) rfl
    have hKc := hK.sub (tys' := [(cJ, .long)]) [1] rfl
    have hFc := va_free (wc := [(a4, .inl (cJ, cap, .inr (.inl va)))]) hD hS hA [3] rfl
    refine va_callr (va_runS (As := [.ref a4, .int (nI np)]) (rest := [.ref x]) ⟨hx, hb, hml, hown, hall⟩ (c_copyOf l dC dI a4 cJ cap np va H.size hnp1 hnp2) (va_cwS 2 hall gX0_141 rfl rfl rfl (by decide +kernel) ⟨Nat.le_of_ble_eq_true rfl, Nat.le_of_ble_eq_true rfl⟩) ⟨xu_blind, fun U hU hW => ⟨rfl, by rw [hU], by rw [hU]; exact hPc, va_K.moved hW.alike hKc, hDc.weaken (fun _ _ _ _ => trivial)⟩⟩ rfl rfl hl.1 rfl (lv_room (Nat.le_of_ble_eq_true rfl)) dX0_makePlaces_47 ⟨by show _ ≤ 2; omega, by show _ ≤ 2 * np; omega⟩) hS (fun q _ h => hFc q h) hFc (fun u9 b4 t9 H1 locs ht hvm hw hB hz1 hk1 hS => ?_)
    obtain ⟨hP1, hK1, hD1⟩ := hB
    rw [ht] at hP1
    obtain ⟨hP, hD⟩ := va_join (wr := [(x, .inr (0, [.int (nI nD), .int (nI nR), .ref a1, .ref a2, .ref b3, .ref a4, .ref a5, .ref a6, .int (nI ec), .ref a7, .int (nI ac), .long now])), (a1, .inl (cJ, nD, .inr (.inl dv))), (a2, .inl (cI, nD + 1, .inl (fun j => nI (r j)))), (a5, .inl (cJ, 16, .inr (.inl ev))), (a6, .inl (cJ, 16, .inr (.inl ed))), (a7, .inl (cI, nD, .inl ad)), (a3, .inl (cJ, cap, .inr (.inl ti))), (b3, .inl (cJ, np, .inr (.inl (va_cpy ti (fun _ => 0) 0 0 cap))))]) (w1 := [(a4, .inl (cJ, cap, .inr (.inl va))), (b4, .inl (cJ, np, .inr (.inl (va_cpy va (fun _ => 0) 0 0 cap))))]) hP hD [3] [0, 1, 2, 4, 5, 6, 7, 8] rfl rfl (by decide) (by decide) hk1 hFc hP1 hD1
    generalize H1 = H at hP hS ⊢
    have hP : va_P (dC, dI) vwCl [(x, .inr (0, [.int (nI nD), .int (nI nR), .ref a1, .ref a2, .ref b3, .ref a4, .ref a5, .ref a6, .int (nI ec), .ref a7, .int (nI ac), .long now])), (a1, .inl (cJ, nD, .inr (.inl dv))), (a2, .inl (cI, nD + 1, .inl (fun j => nI (r j)))), (a5, .inl (cJ, 16, .inr (.inl ev))), (a6, .inl (cJ, 16, .inr (.inl ed))), (a7, .inl (cI, nD, .inl ad)), (a3, .inl (cJ, cap, .inr (.inl ti))), (b3, .inl (cJ, np, .inr (.inl (va_cpy ti (fun _ => 0) 0 0 cap)))), (a4, .inl (cJ, cap, .inr (.inl va))), (b4, .inl (cJ, np, .inr (.inl (va_cpy va (fun _ => 0) 0 0 cap))))] H := hP
    have hD : va_D A [(x, .inr (0, [.int (nI nD), .int (nI nR), .ref a1, .ref a2, .ref b3, .ref a4, .ref a5, .ref a6, .int (nI ec), .ref a7, .int (nI ac), .long now])), (a1, .inl (cJ, nD, .inr (.inl dv))), (a2, .inl (cI, nD + 1, .inl (fun j => nI (r j)))), (a5, .inl (cJ, 16, .inr (.inl ev))), (a6, .inl (cJ, 16, .inr (.inl ed))), (a7, .inl (cI, nD, .inl ad)), (a3, .inl (cJ, cap, .inr (.inl ti))), (b3, .inl (cJ, np, .inr (.inl (va_cpy ti (fun _ => 0) 0 0 cap)))), (a4, .inl (cJ, cap, .inr (.inl va))), (b4, .inl (cJ, np, .inr (.inl (va_cpy va (fun _ => 0) 0 0 cap))))] := hD
    refine va_put (D := (dC, dI)) (ci := 0) (v := .ref b4) (ty := (.array .long)) (C := RX0) (T := TX0) (N := 12) hx hb hall inX0 tyX0 tyX0_ok nmX0 hown hK hP hD hS 0 rfl rfl 5 (by decide) (hall _ kw_28) (fun _ h9 => h9) rfl (by decide +kernel) rfl rfl (Nat.le_of_ble_eq_true rfl) dX0_makePlaces_50 (fun H locs hP hD hS => ?_)
    have hP : va_P (dC, dI) vwCl [(x, .inr (0, [.int (nI nD), .int (nI nR), .ref a1, .ref a2, .ref b3, .ref b4, .ref a5, .ref a6, .int (nI ec), .ref a7, .int (nI ac), .long now])), (a1, .inl (cJ, nD, .inr (.inl dv))), (a2, .inl (cI, nD + 1, .inl (fun j => nI (r j)))), (a5, .inl (cJ, 16, .inr (.inl ev))), (a6, .inl (cJ, 16, .inr (.inl ed))), (a7, .inl (cI, nD, .inl ad)), (a3, .inl (cJ, cap, .inr (.inl ti))), (b3, .inl (cJ, np, .inr (.inl (va_cpy ti (fun _ => 0) 0 0 cap)))), (a4, .inl (cJ, cap, .inr (.inl va))), (b4, .inl (cJ, np, .inr (.inl (va_cpy va (fun _ => 0) 0 0 cap))))] H := hP
    have hD : va_D A [(x, .inr (0, [.int (nI nD), .int (nI nR), .ref a1, .ref a2, .ref b3, .ref b4, .ref a5, .ref a6, .int (nI ec), .ref a7, .int (nI ac), .long now])), (a1, .inl (cJ, nD, .inr (.inl dv))), (a2, .inl (cI, nD + 1, .inl (fun j => nI (r j)))), (a5, .inl (cJ, 16, .inr (.inl ev))), (a6, .inl (cJ, 16, .inr (.inl ed))), (a7, .inl (cI, nD, .inl ad)), (a3, .inl (cJ, cap, .inr (.inl ti))), (b3, .inl (cJ, np, .inr (.inl (va_cpy ti (fun _ => 0) 0 0 cap)))), (a4, .inl (cJ, cap, .inr (.inl va))), (b4, .inl (cJ, np, .inr (.inl (va_cpy va (fun _ => 0) 0 0 cap))))] := hD
    have hP := hP.sub (ws' := [(x, .inr (0, [.int (nI nD), .int (nI nR), .ref a1, .ref a2, .ref b3, .ref b4, .ref a5, .ref a6, .int (nI ec), .ref a7, .int (nI ac), .long now])), (a1, .inl (cJ, nD, .inr (.inl dv))), (a2, .inl (cI, nD + 1, .inl (fun j => nI (r j)))), (b3, .inl (cJ, np, .inr (.inl (va_cpy ti (fun _ => 0) 0 0 cap)))), (b4, .inl (cJ, np, .inr (.inl (va_cpy va (fun _ => 0) 0 0 cap)))), (a5, .inl (cJ, 16, .inr (.inl ev))), (a6, .inl (cJ, 16, .inr (.inl ed))), (a7, .inl (cI, nD, .inl ad))]) [0, 1, 2, 7, 9, 3, 4, 5] rfl
    have hD := hD.sub (ws' := [(x, .inr (0, [.int (nI nD), .int (nI nR), .ref a1, .ref a2, .ref b3, .ref b4, .ref a5, .ref a6, .int (nI ec), .ref a7, .int (nI ac), .long now])), (a1, .inl (cJ, nD, .inr (.inl dv))), (a2, .inl (cI, nD + 1, .inl (fun j => nI (r j)))), (b3, .inl (cJ, np, .inr (.inl (va_cpy ti (fun _ => 0) 0 0 cap)))), (b4, .inl (cJ, np, .inr (.inl (va_cpy va (fun _ => 0) 0 0 cap)))), (a5, .inl (cJ, 16, .inr (.inl ev))), (a6, .inl (cJ, 16, .inr (.inl ed))), (a7, .inl (cI, nD, .inl ad))]) [0, 1, 2, 7, 9, 3, 4, 5] (by decide) rfl
    refine W.widen (k := 2) (n := 2 * np) (by omega) (by omega) ?_
    exact W.vret hx hb hr (fun t9 ht hW => ⟨⟨(), rfl, trivial, b3, b4, by rw [ht]; exact hP, va_K.moved hW.alike hK, hD⟩, hS.F ht⟩) hS.2.2 dX0_makePlaces_53
  · exact absurd c_1 (by omega)
set_option maxHeartbeats 4000000 in
set_option maxRecDepth 100000 in
theorem c_endRowAt2 (l : Launch) (dC : Nat → ClassId) (dI : Nat → Nat → Nat) (x a1 a2 a3 a4 a5 a6 a7 : Nat) (cI cJ : ClassId) (nD nR : Nat) (dv : Nat → Int64) (r : Nat → Nat) (cap : Nat) (ti va ev ed : Nat → Int64) (ec : Nat) (ad : Nat → Int32) (ac : Nat) (now : Int64) (sz : Nat) (hI : wf_R nD nR cap ec ac r) (d en : Nat) (hd : d < nD) (hq : cap < r nD + en - r (d + 1)) (hqR : r nD + en - r (d + 1) ≤ nR) (np : Nat) (hnp : np = max (r nD + en - r (d + 1)) (min nR (2 * cap))) : Met l yX0_endRowAt wsX0_endRowAt ({ frames := 3, cells := 2, slots := 2 * np, locals := 104 }) (va_Pc [.ref x, .int (nI d), .int (nI en)] (fun U => U.heap.size = sz ∧ va_P (dC, dI) vwCl (wr x a1 a2 a3 a4 a5 a6 a7 cI cJ nD nR dv r cap ti va ev ed ec ad ac now) U.heap ∧ va_K (dC, dI) vwCl [(cI, .int), (cJ, .long)] U ∧ va_D (fun _ => True) (wr x a1 a2 a3 a4 a5 a6 a7 cI cJ nD nR dv r cap ti va ev ed ec ad ac now))) (va_Qv (fun _ : Unit => True) (fun _ t9 => ∃ b3 b4 : Nat, va_P (dC, dI) vwCl (wr x a1 a2 b3 b4 a5 a6 a7 cI cJ nD nR dv (wf_sh r d en (r (d + 1)) (nD + 1)) np (va_cpy (va_cpy ti (fun _ => 0) 0 0 cap) (va_cpy ti (fun _ => 0) 0 0 cap) (r (d + 1)) en (r nD - r (d + 1))) (va_cpy (va_cpy va (fun _ => 0) 0 0 cap) (va_cpy va (fun _ => 0) 0 0 cap) (r (d + 1)) en (r nD - r (d + 1))) ev ed ec ad ac now) t9.heap ∧ va_K (dC, dI) vwCl [(cI, .int), (cJ, .long)] t9 ∧ va_D (va_A (wr x a1 a2 a3 a4 a5 a6 a7 cI cJ nD nR dv r cap ti va ev ed ec ad ac now) sz) (wr x a1 a2 b3 b4 a5 a6 a7 cI cJ nD nR dv (wf_sh r d en (r (d + 1)) (nD + 1)) np (va_cpy (va_cpy ti (fun _ => 0) 0 0 cap) (va_cpy ti (fun _ => 0) 0 0 cap) (r (d + 1)) en (r nD - r (d + 1))) (va_cpy (va_cpy va (fun _ => 0) 0 0 cap) (va_cpy va (fun _ => 0) 0 0 cap) (r (d + 1)) en (r nD - r (d + 1))) ev ed ec ad ac now)) (va_A (wr x a1 a2 a3 a4 a5 a6 a7 cI cJ nD nR dv r cap ti va ev ed ec ad ac now) sz)) 2 (2 * np) (va_A (wr x a1 a2 a3 a4 a5 a6 a7 cI cJ nD nR dv r cap ti va ev ed ec ad ac now) sz) := by
  refine Met.ofW (cc := cX0_endRowAt) (maxL := 7) (ret := none) (by decide) rfl ?_
  intro p e s m args below meth c s₁ B hml hv
  obtain ⟨rfl, hsz, hP, hK, hD0⟩ := hv
  subst hsz
  have hD := hD0.self (sz := s.heap.size)
  generalize hAe : va_A (wr x a1 a2 a3 a4 a5 a6 a7 cI cJ nD nR dv r cap ti va ev ed ec ad ac now) s.heap.size = A at hD ⊢
  have hA : ∀ q : Nat, s.heap.size ≤ q → A q := fun q h => by rw [← hAe]; exact Or.inr h
  have hS : va_S A s.heap s.heap [] := va_S.rf
  have hx := B.exec
  have hb := B.bytes
  have hr := B.returns
  have hts := atoms_spec (ws := wsX0_endRowAt) B.pre
  have hown : s.vm.findClass RX0 = some m.cls := findClass_of_methodNamed B.named
  have hlocks := B.notSynchronized
  have hall := fun (w : Cond) (h : w ∈ allw) => hts w (List.mem_cons_of_mem _ h)
  have hl := lv_entry ([.ref x, .int (nI d), .int (nI en)]) (n := 7) (Nat.le_of_ble_eq_true rfl)
  rw [lg_entry_eq]
  generalize (lg_sl ([.ref x, .int (nI d), .int (nI en)]) ++ List.replicate (7 - (lg_sl ([.ref x, .int (nI d), .int (nI en)])).length) Slot.unset).toArray = ls at hl ⊢
  have hl : lv_has ls 7 [(0, .ref x), (1, .int (nI d)), (2, .int (nI en))] := hl
  have hI0 := hI
  obtain ⟨hnD1, hnD, hnR1, hnR, hcap, hrc, hrR, hr0, hmo, hec, hac⟩ := hI
  have hle := wf_le hmo (show d + 1 ≤ nD by omega) (Nat.le_refl nD)
  have hnp1 : cap < np := by omega
  have hnp2 : np ≤ 8192 := by omega
  refine lv_aload_n hx hb dX0_endRowAt_0 rfl (lv_at hl 0 rfl) ?_
  refine va_get (D := (dC, dI)) (ci := 0) (v := .ref a2) (C := RX0) (T := TX0) (N := 12) hx hb hall inX0 hown hK hP 0 rfl rfl 3 (by decide) (hall _ kw_26) (fun _ h9 => h9) rfl dX0_endRowAt_1 ?_
  refine lv_iload_n hx hb dX0_endRowAt_4 rfl (lv_at hl 1 rfl) ?_
  refine lv_iconst (v := 1) hx hb dX0_endRowAt_5 (by decide) ?_
  refine lv_iadd hx hb dX0_endRowAt_6 ?_
  refine tp_i (y := nI (d + 1)) (nI_1 d) ?_
  refine xa_iald hx hb hK hP 2 0 rfl rfl (by omega) (by omega) dX0_endRowAt_7 ?_
  refine lv_istore_n (lv' := [(3, .int (nI (r (d + 1)))), (0, .ref x), (1, .int (nI d)), (2, .int (nI en))]) hx hb dX0_endRowAt_8 rfl hl (by decide) rfl (fun ls hl => ?_)
  refine lv_aload_n hx hb dX0_endRowAt_9 rfl (lv_at hl 1 rfl) ?_
  refine va_get (D := (dC, dI)) (ci := 0) (v := .ref a2) (C := RX0) (T := TX0) (N := 12) hx hb hall inX0 hown hK hP 0 rfl rfl 3 (by decide) (hall _ kw_26) (fun _ h9 => h9) rfl dX0_endRowAt_10 ?_
  refine lv_aload_n hx hb dX0_endRowAt_13 rfl (lv_at hl 1 rfl) ?_
  refine va_get (D := (dC, dI)) (ci := 0) (v := .int (nI nD)) (C := RX0) (T := TX0) (N := 12) hx hb hall inX0 hown hK hP 0 rfl rfl 0 (by decide) (hall _ kw_23) (fun _ h9 => h9) rfl dX0_endRowAt_14 ?_
  refine xa_iald hx hb hK hP 2 0 rfl rfl (by omega) (by omega) dX0_endRowAt_17 ?_
  refine lv_istore (lv' := [(4, .int (nI (r nD))), (3, .int (nI (r (d + 1)))), (0, .ref x), (1, .int (nI d)), (2, .int (nI en))]) hx hb dX0_endRowAt_18 hl (by decide) rfl (fun ls hl => ?_)
  refine lv_iload_n hx hb dX0_endRowAt_20 rfl (lv_at hl 4 rfl) ?_
  refine lv_iload_n hx hb dX0_endRowAt_21 rfl (lv_at hl 1 rfl) ?_
  refine lv_isub hx hb dX0_endRowAt_22 ?_
  refine lv_istore (lv' := [(5, .int ((nI en) - (nI (r (d + 1))))), (4, .int (nI (r nD))), (3, .int (nI (r (d + 1)))), (0, .ref x), (1, .int (nI d)), (2, .int (nI en))]) hx hb dX0_endRowAt_23 hl (by decide) rfl (fun ls hl => ?_)
  refine lv_aload_n hx hb dX0_endRowAt_25 rfl (lv_at hl 3 rfl) ?_
  refine lv_iload hx hb dX0_endRowAt_26 (lv_at hl 1 rfl) ?_
  refine lv_iload hx hb dX0_endRowAt_28 (lv_at hl 0 rfl) ?_
  refine lv_iadd hx hb dX0_endRowAt_30 ?_
  refine tp_i (y := nI (r nD + en - r (d + 1))) (xs_i (by omega)) ?_
  have hFc := va_free (wc := [(x, .inr (0, [.int (nI nD), .int (nI nR), .ref a1, .ref a2, .ref a3, .ref a4, .ref a5, .ref a6, .int (nI ec), .ref a7, .int (nI ac), .long now])), (a1, .inl (cJ, nD, .inr (.inl dv))), (a2, .inl (cI, nD + 1, .inl (fun j => nI (r j)))), (a3, .inl (cJ, cap, .inr (.inl ti))), (a4, .inl (cJ, cap, .inr (.inl va))), (a5, .inl (cJ, 16, .inr (.inl ev))), (a6, .inl (cJ, 16, .inr (.inl ed))), (a7, .inl (cI, nD, .inl ad))]) hD hS hA [0, 1, 2, 3, 4, 5, 6, 7] rfl
  refine va_callv (va_runV (As := [.int (nI (r nD + en - r (d + 1)))]) (rest := []) ⟨hx, hb, hml, hown, hall⟩ (c_makePlaces2 l dC dI x a1 a2 a3 a4 a5 a6 a7 cI cJ nD nR dv r cap ti va ev ed ec ad ac now s.heap.size (r nD + en - r (d + 1)) hq hqR hnR np hnp) (cwV 1 hall gX0_135 rfl rfl rfl (by decide +kernel) ⟨Nat.le_of_ble_eq_true rfl, Nat.le_of_ble_eq_true rfl⟩) ⟨xu_blind, va_recv hK hP (ci := 0) (q0 := 0) rfl rfl, fun U hU hW => ⟨rfl, by rw [hU], by rw [hU]; exact hP, va_K.moved hW.alike hK, hD.weaken (fun _ _ _ _ => trivial)⟩⟩ rfl rfl hl.1 rfl (lv_room (Nat.le_of_ble_eq_true rfl)) dX0_endRowAt_31 ⟨by show _ ≤ 2; omega, by show _ ≤ 2 * np; omega⟩) hS (fun q _ h => hFc q h) hFc (fun u9 t9 H1 locs ht hvm hw hB hz1 hk1 hS => ?_)
  obtain ⟨b3, b4, hP1, hK1, hD1⟩ := hB
  rw [ht] at hP1
  obtain ⟨hP, hD⟩ := va_join (wr := []) (w1 := [(x, .inr (0, [.int (nI nD), .int (nI nR), .ref a1, .ref a2, .ref b3, .ref b4, .ref a5, .ref a6, .int (nI ec), .ref a7, .int (nI ac), .long now])), (a1, .inl (cJ, nD, .inr (.inl dv))), (a2, .inl (cI, nD + 1, .inl (fun j => nI (r j)))), (b3, .inl (cJ, np, .inr (.inl (va_cpy ti (fun _ => 0) 0 0 cap)))), (b4, .inl (cJ, np, .inr (.inl (va_cpy va (fun _ => 0) 0 0 cap)))), (a5, .inl (cJ, 16, .inr (.inl ev))), (a6, .inl (cJ, 16, .inr (.inl ed))), (a7, .inl (cI, nD, .inl ad))]) hP hD [0, 1, 2, 3, 4, 5, 6, 7] [] rfl rfl (by decide) (by decide) hk1 hFc hP1 hD1
  generalize H1 = H at hP hS ⊢
  have hP : va_P (dC, dI) vwCl [(x, .inr (0, [.int (nI nD), .int (nI nR), .ref a1, .ref a2, .ref b3, .ref b4, .ref a5, .ref a6, .int (nI ec), .ref a7, .int (nI ac), .long now])), (a1, .inl (cJ, nD, .inr (.inl dv))), (a2, .inl (cI, nD + 1, .inl (fun j => nI (r j)))), (b3, .inl (cJ, np, .inr (.inl (va_cpy ti (fun _ => 0) 0 0 cap)))), (b4, .inl (cJ, np, .inr (.inl (va_cpy va (fun _ => 0) 0 0 cap)))), (a5, .inl (cJ, 16, .inr (.inl ev))), (a6, .inl (cJ, 16, .inr (.inl ed))), (a7, .inl (cI, nD, .inl ad))] H := hP
  have hD : va_D A [(x, .inr (0, [.int (nI nD), .int (nI nR), .ref a1, .ref a2, .ref b3, .ref b4, .ref a5, .ref a6, .int (nI ec), .ref a7, .int (nI ac), .long now])), (a1, .inl (cJ, nD, .inr (.inl dv))), (a2, .inl (cI, nD + 1, .inl (fun j => nI (r j)))), (b3, .inl (cJ, np, .inr (.inl (va_cpy ti (fun _ => 0) 0 0 cap)))), (b4, .inl (cJ, np, .inr (.inl (va_cpy va (fun _ => 0) 0 0 cap)))), (a5, .inl (cJ, 16, .inr (.inl ev))), (a6, .inl (cJ, 16, .inr (.inl ed))), (a7, .inl (cI, nD, .inl ad))] := hD
  refine W.widen (k := 2) (n := 2 * np) (by omega) (by omega) ?_
  refine lv_aload_n hx hb dX0_endRowAt_34 rfl (lv_at hl 3 rfl) ?_
  refine lv_iload_n hx hb dX0_endRowAt_35 rfl (lv_at hl 2 rfl) ?_
  refine lv_iload_n hx hb dX0_endRowAt_36 rfl (lv_at hl 5 rfl) ?_
  refine lv_iload hx hb dX0_endRowAt_37 (lv_at hl 1 rfl) ?_
  refine lv_iload_n hx hb dX0_endRowAt_39 rfl (lv_at hl 2 rfl) ?_
  refine lv_isub hx hb dX0_endRowAt_40 ?_
  refine tp_i (y := nI (r nD - r (d + 1))) (pk_sub hle) ?_
  have hFc := va_free (wc := [(x, .inr (0, [.int (nI nD), .int (nI nR), .ref a1, .ref a2, .ref b3, .ref b4, .ref a5, .ref a6, .int (nI ec), .ref a7, .int (nI ac), .long now])), (a1, .inl (cJ, nD, .inr (.inl dv))), (a2, .inl (cI, nD + 1, .inl (fun j => nI (r j)))), (b3, .inl (cJ, np, .inr (.inl (va_cpy ti (fun _ => 0) 0 0 cap)))), (b4, .inl (cJ, np, .inr (.inl (va_cpy va (fun _ => 0) 0 0 cap)))), (a5, .inl (cJ, 16, .inr (.inl ev))), (a6, .inl (cJ, 16, .inr (.inl ed))), (a7, .inl (cI, nD, .inl ad))]) hD hS hA [0, 1, 2, 3, 4, 5, 6, 7] rfl
  refine va_callv (va_runV (As := [.int (nI (r (d + 1))), .int (nI en), .int (nI (r nD - r (d + 1)))]) (rest := []) ⟨hx, hb, hml, hown, hall⟩ (c_moveTransactions l dC dI x a1 a2 b3 b4 a5 a6 a7 cI cJ nD nR dv r np (va_cpy ti (fun _ => 0) 0 0 cap) (va_cpy va (fun _ => 0) 0 0 cap) ev ed ec ad ac now H.size (r (d + 1)) en (r nD - r (d + 1)) (by omega) (by omega) hnp2) (cwV 3 hall gX0_95 rfl rfl rfl (by decide +kernel) ⟨Nat.le_of_ble_eq_true rfl, Nat.le_of_ble_eq_true rfl⟩) ⟨xu_blind, va_recv hK hP (ci := 0) (q0 := 0) rfl rfl, fun U hU hW => ⟨rfl, by rw [hU], by rw [hU]; exact hP, va_K.moved hW.alike hK, hD.weaken (fun _ _ _ _ => trivial)⟩⟩ rfl rfl hl.1 rfl (lv_room (Nat.le_of_ble_eq_true rfl)) dX0_endRowAt_41 ⟨by show _ ≤ 2; omega, by show _ ≤ 2 * np; omega⟩) hS (fun q _ h => hFc q h) hFc (fun u9 t9 H1 locs ht hvm hw hB hz1 hk1 hS => ?_)
  obtain ⟨hP1, hK1, hD1⟩ := hB
  rw [ht] at hP1
  obtain ⟨hP, hD⟩ := va_join (wr := []) (w1 := [(x, .inr (0, [.int (nI nD), .int (nI nR), .ref a1, .ref a2, .ref b3, .ref b4, .ref a5, .ref a6, .int (nI ec), .ref a7, .int (nI ac), .long now])), (a1, .inl (cJ, nD, .inr (.inl dv))), (a2, .inl (cI, nD + 1, .inl (fun j => nI (r j)))), (b3, .inl (cJ, np, .inr (.inl (va_cpy (va_cpy ti (fun _ => 0) 0 0 cap) (va_cpy ti (fun _ => 0) 0 0 cap) (r (d + 1)) en (r nD - r (d + 1)))))), (b4, .inl (cJ, np, .inr (.inl (va_cpy (va_cpy va (fun _ => 0) 0 0 cap) (va_cpy va (fun _ => 0) 0 0 cap) (r (d + 1)) en (r nD - r (d + 1)))))), (a5, .inl (cJ, 16, .inr (.inl ev))), (a6, .inl (cJ, 16, .inr (.inl ed))), (a7, .inl (cI, nD, .inl ad))]) hP hD [0, 1, 2, 3, 4, 5, 6, 7] [] rfl rfl (by decide) (by decide) hk1 hFc hP1 hD1
  generalize H1 = H at hP hS ⊢
  have hP : va_P (dC, dI) vwCl [(x, .inr (0, [.int (nI nD), .int (nI nR), .ref a1, .ref a2, .ref b3, .ref b4, .ref a5, .ref a6, .int (nI ec), .ref a7, .int (nI ac), .long now])), (a1, .inl (cJ, nD, .inr (.inl dv))), (a2, .inl (cI, nD + 1, .inl (fun j => nI (r j)))), (b3, .inl (cJ, np, .inr (.inl (va_cpy (va_cpy ti (fun _ => 0) 0 0 cap) (va_cpy ti (fun _ => 0) 0 0 cap) (r (d + 1)) en (r nD - r (d + 1)))))), (b4, .inl (cJ, np, .inr (.inl (va_cpy (va_cpy va (fun _ => 0) 0 0 cap) (va_cpy va (fun _ => 0) 0 0 cap) (r (d + 1)) en (r nD - r (d + 1)))))), (a5, .inl (cJ, 16, .inr (.inl ev))), (a6, .inl (cJ, 16, .inr (.inl ed))), (a7, .inl (cI, nD, .inl ad))] H := hP
  have hD : va_D A [(x, .inr (0, [.int (nI nD), .int (nI nR), .ref a1, .ref a2, .ref b3, .ref b4, .ref a5, .ref a6, .int (nI ec), .ref a7, .int (nI ac), .long now])), (a1, .inl (cJ, nD, .inr (.inl dv))), (a2, .inl (cI, nD + 1, .inl (fun j => nI (r j)))), (b3, .inl (cJ, np, .inr (.inl (va_cpy (va_cpy ti (fun _ => 0) 0 0 cap) (va_cpy ti (fun _ => 0) 0 0 cap) (r (d + 1)) en (r nD - r (d + 1)))))), (b4, .inl (cJ, np, .inr (.inl (va_cpy (va_cpy va (fun _ => 0) 0 0 cap) (va_cpy va (fun _ => 0) 0 0 cap) (r (d + 1)) en (r nD - r (d + 1)))))), (a5, .inl (cJ, 16, .inr (.inl ev))), (a6, .inl (cJ, 16, .inr (.inl ed))), (a7, .inl (cI, nD, .inl ad))] := hD
  refine lv_iload_n hx hb dX0_endRowAt_44 rfl (lv_at hl 4 rfl) ?_
  refine lv_iconst (v := 1) hx hb dX0_endRowAt_45 (by decide) ?_
  refine lv_iadd hx hb dX0_endRowAt_46 ?_
  refine tp_i (y := nI (d + 1)) (nI_1 d) ?_
  refine lv_istore (lv' := [(6, .int (nI (d + 1))), (5, .int ((nI en) - (nI (r (d + 1))))), (4, .int (nI (r nD))), (3, .int (nI (r (d + 1)))), (0, .ref x), (1, .int (nI d)), (2, .int (nI en))]) hx hb dX0_endRowAt_47 hl (by decide) rfl (fun ls hl => ?_)
  have hloop : ∀ (n k : Nat) (H : Heap) (locs : List Loc) (ls : Array Slot), k + n = nD + 1 → d < k → va_P (dC, dI) vwCl [(x, .inr (0, [.int (nI nD), .int (nI nR), .ref a1, .ref a2, .ref b3, .ref b4, .ref a5, .ref a6, .int (nI ec), .ref a7, .int (nI ac), .long now])), (a1, .inl (cJ, nD, .inr (.inl dv))), (a2, .inl (cI, nD + 1, .inl (fun j => nI ((wf_sh r d en (r (d + 1)) k) j)))), (b3, .inl (cJ, np, .inr (.inl (va_cpy (va_cpy ti (fun _ => 0) 0 0 cap) (va_cpy ti (fun _ => 0) 0 0 cap) (r (d + 1)) en (r nD - r (d + 1)))))), (b4, .inl (cJ, np, .inr (.inl (va_cpy (va_cpy va (fun _ => 0) 0 0 cap) (va_cpy va (fun _ => 0) 0 0 cap) (r (d + 1)) en (r nD - r (d + 1)))))), (a5, .inl (cJ, 16, .inr (.inl ev))), (a6, .inl (cJ, 16, .inr (.inl ed))), (a7, .inl (cI, nD, .inl ad))] H → va_D A [(x, .inr (0, [.int (nI nD), .int (nI nR), .ref a1, .ref a2, .ref b3, .ref b4, .ref a5, .ref a6, .int (nI ec), .ref a7, .int (nI ac), .long now])), (a1, .inl (cJ, nD, .inr (.inl dv))), (a2, .inl (cI, nD + 1, .inl (fun j => nI ((wf_sh r d en (r (d + 1)) k) j)))), (b3, .inl (cJ, np, .inr (.inl (va_cpy (va_cpy ti (fun _ => 0) 0 0 cap) (va_cpy ti (fun _ => 0) 0 0 cap) (r (d + 1)) en (r nD - r (d + 1)))))), (b4, .inl (cJ, np, .inr (.inl (va_cpy (va_cpy va (fun _ => 0) 0 0 cap) (va_cpy va (fun _ => 0) 0 0 cap) (r (d + 1)) en (r nD - r (d + 1)))))), (a5, .inl (cJ, 16, .inr (.inl ev))), (a6, .inl (cJ, 16, .inr (.inl ed))), (a7, .inl (cI, nD, .inl ad))] → va_S A s.heap H locs → lv_has ls 7 [(0, .ref x), (5, .int (nI en - nI (r (d + 1)))), (6, .int (nI k))] → W p l e (headSpec wsX0_endRowAt ({ frames := 3, cells := 2, slots := 2 * np, locals := 104 })).room s m (([.ref x, .int (nI d), .int (nI en)] : List Value).toArray) below meth c H locs 2 (2 * np) (MQ below (va_Qv (fun _ : Unit => True) (fun _ t9 => ∃ b3 b4 : Nat, va_P (dC, dI) vwCl (wr x a1 a2 b3 b4 a5 a6 a7 cI cJ nD nR dv (wf_sh r d en (r (d + 1)) (nD + 1)) np (va_cpy (va_cpy ti (fun _ => 0) 0 0 cap) (va_cpy ti (fun _ => 0) 0 0 cap) (r (d + 1)) en (r nD - r (d + 1))) (va_cpy (va_cpy va (fun _ => 0) 0 0 cap) (va_cpy va (fun _ => 0) 0 0 cap) (r (d + 1)) en (r nD - r (d + 1))) ev ed ec ad ac now) t9.heap ∧ va_K (dC, dI) vwCl [(cI, .int), (cJ, .long)] t9 ∧ va_D A (wr x a1 a2 b3 b4 a5 a6 a7 cI cJ nD nR dv (wf_sh r d en (r (d + 1)) (nD + 1)) np (va_cpy (va_cpy ti (fun _ => 0) 0 0 cap) (va_cpy ti (fun _ => 0) 0 0 cap) (r (d + 1)) en (r nD - r (d + 1))) (va_cpy (va_cpy va (fun _ => 0) 0 0 cap) (va_cpy va (fun _ => 0) 0 0 cap) (r (d + 1)) en (r nD - r (d + 1))) ev ed ec ad ac now)) A) (([.ref x, .int (nI d), .int (nI en)] : List Value).toArray) s 2 (2 * np) A) (F0 m 49 ls []) := by
    intro n
    induction n with
    | zero =>
      intro k H locs ls hk hdk hP hD hS hl
      obtain rfl : k = nD + 1 := by omega
      refine lv_iload hx hb dX0_endRowAt_49 (lv_at hl 2 rfl) ?_
      refine lv_aload_n hx hb dX0_endRowAt_51 rfl (lv_at hl 0 rfl) ?_
      refine va_get (D := (dC, dI)) (ci := 0) (v := .int (nI nD)) (C := RX0) (T := TX0) (N := 12) hx hb hall inX0 hown hK hP 0 rfl rfl 0 (by decide) (hall _ kw_23) (fun _ h9 => h9) rfl dX0_endRowAt_52 ?_
      refine xc_gt (tgt := 76) hx hb (by omega) (by omega) dX0_endRowAt_55 (by decide) (fun c_3 => ?_) (fun c_3 => ?_)
      · exact W.vret hx hb hr (fun t9 ht hW => ⟨⟨(), rfl, trivial, b3, b4, by rw [ht]; exact hP, va_K.moved hW.alike hK, hD⟩, hS.F ht⟩) hS.2.2 dX0_endRowAt_76
      · exact absurd c_3 (by omega)
    | succ n ih =>
      intro k H locs ls hk hdk hP hD hS hl
      have hkr := wf_le hmo (show d + 1 ≤ k by omega) (show k ≤ nD by omega)
      have hkn := wf_le hmo (show k ≤ nD by omega) (Nat.le_refl nD)
      refine lv_iload hx hb dX0_endRowAt_49 (lv_at hl 2 rfl) ?_
      refine lv_aload_n hx hb dX0_endRowAt_51 rfl (lv_at hl 0 rfl) ?_
      refine va_get (D := (dC, dI)) (ci := 0) (v := .int (nI nD)) (C := RX0) (T := TX0) (N := 12) hx hb hall inX0 hown hK hP 0 rfl rfl 0 (by decide) (hall _ kw_23) (fun _ h9 => h9) rfl dX0_endRowAt_52 ?_
      refine xc_gt (tgt := 76) hx hb (by omega) (by omega) dX0_endRowAt_55 (by decide) (fun c_4 => ?_) (fun c_4 => ?_)
      · exact absurd c_4 (by omega)
      · refine lv_aload_n hx hb dX0_endRowAt_58 rfl (lv_at hl 0 rfl) ?_
        refine va_get (D := (dC, dI)) (ci := 0) (v := .ref a2) (C := RX0) (T := TX0) (N := 12) hx hb hall inX0 hown hK hP 0 rfl rfl 3 (by decide) (hall _ kw_26) (fun _ h9 => h9) rfl dX0_endRowAt_59 ?_
        refine lv_iload hx hb dX0_endRowAt_62 (lv_at hl 2 rfl) ?_
        refine lv_dup2_11 hx hb dX0_endRowAt_64 rfl rfl ?_
        refine xa_iald hx hb hK hP 2 0 rfl rfl (by omega) (by omega) dX0_endRowAt_65 ?_
        refine tp_i (y := nI (r k)) (by rw [wf_sh_at]) ?_
        refine lv_iload hx hb dX0_endRowAt_66 (lv_at hl 1 rfl) ?_
        refine lv_iadd hx hb dX0_endRowAt_68 ?_
        refine tp_i (y := nI (r k + en - r (d + 1))) (xs_i (by omega)) ?_
        refine xa_iast hx hb hK hP hD hS 2 0 rfl rfl (by omega) (by omega) dX0_endRowAt_69 (fun H locs hP hD hS => ?_)
        have hP : va_P (dC, dI) vwCl [(x, .inr (0, [.int (nI nD), .int (nI nR), .ref a1, .ref a2, .ref b3, .ref b4, .ref a5, .ref a6, .int (nI ec), .ref a7, .int (nI ac), .long now])), (a1, .inl (cJ, nD, .inr (.inl dv))), (a2, .inl (cI, nD + 1, .inl (upd (fun j => nI ((wf_sh r d en (r (d + 1)) k) j)) k (nI (r k + en - r (d + 1)))))), (b3, .inl (cJ, np, .inr (.inl (va_cpy (va_cpy ti (fun _ => 0) 0 0 cap) (va_cpy ti (fun _ => 0) 0 0 cap) (r (d + 1)) en (r nD - r (d + 1)))))), (b4, .inl (cJ, np, .inr (.inl (va_cpy (va_cpy va (fun _ => 0) 0 0 cap) (va_cpy va (fun _ => 0) 0 0 cap) (r (d + 1)) en (r nD - r (d + 1)))))), (a5, .inl (cJ, 16, .inr (.inl ev))), (a6, .inl (cJ, 16, .inr (.inl ed))), (a7, .inl (cI, nD, .inl ad))] H := hP
        have hD : va_D A [(x, .inr (0, [.int (nI nD), .int (nI nR), .ref a1, .ref a2, .ref b3, .ref b4, .ref a5, .ref a6, .int (nI ec), .ref a7, .int (nI ac), .long now])), (a1, .inl (cJ, nD, .inr (.inl dv))), (a2, .inl (cI, nD + 1, .inl (upd (fun j => nI ((wf_sh r d en (r (d + 1)) k) j)) k (nI (r k + en - r (d + 1)))))), (b3, .inl (cJ, np, .inr (.inl (va_cpy (va_cpy ti (fun _ => 0) 0 0 cap) (va_cpy ti (fun _ => 0) 0 0 cap) (r (d + 1)) en (r nD - r (d + 1)))))), (b4, .inl (cJ, np, .inr (.inl (va_cpy (va_cpy va (fun _ => 0) 0 0 cap) (va_cpy va (fun _ => 0) 0 0 cap) (r (d + 1)) en (r nD - r (d + 1)))))), (a5, .inl (cJ, 16, .inr (.inl ev))), (a6, .inl (cJ, 16, .inr (.inl ed))), (a7, .inl (cI, nD, .inl ad))] := hD
        rw [un_nI, wf_sh_s r d en (r (d + 1)) k hdk] at hP hD
        refine lv_iinc (v := nI (k + 1)) (lv' := [(6, .int (nI (k + 1))), (0, .ref x), (5, .int (nI en - nI (r (d + 1))))]) hx hb dX0_endRowAt_70 hl (k := 2) rfl (nI_1 k) (by decide) rfl (fun ls hl => ?_)
        refine lv_goto (tgt := 49) hx hb dX0_endRowAt_73 (by decide) ?_
        exact ih (k + 1) H locs ls (by omega) (by omega) hP hD hS (lv_sub hl [1, 2, 0] rfl)
  exact hloop (nD - d) (d + 1) H locs ls (by omega) (by omega) (by rw [wf_sh_0]; exact hP) (by rw [wf_sh_0]; exact hD) hS (lv_sub hl [4, 1, 0] rfl)
set_option maxHeartbeats 4000000 in
set_option maxRecDepth 100000 in
theorem c_assign2 (l : Launch) (dC : Nat → ClassId) (dI : Nat → Nat → Nat) (x a1 a2 a3 a4 a5 a6 a7 : Nat) (cI cJ : ClassId) (nD nR : Nat) (dv : Nat → Int64) (r : Nat → Nat) (cap : Nat) (ti va ev ed : Nat → Int64) (ec : Nat) (ad : Nat → Int32) (ac : Nat) (now : Int64) (sz : Nat) (hI : wf_R nD nR cap ec ac r) (d : Nat) (mo : Int32) (t : Int64) (hd : d < nD) (hz : 0 < ec) (hg : wf_lg mo (ed 0) t ∧ wf_dg ed now ec 0 (-1)) (cut pl sm : Nat) (hcut : cut = wf_fb ti (now + ed 0 - 1) (r (d + 1) - r d) (r d)) (hpl : pl = wf_fb ti (now + ed 0 - wf_lim mo (ed 0) t - 1) (cut - r d) (r d)) (hsm : sm = wf_ss va (ev 0) pl (cut - pl)) (hroom : r nD - (sm - pl + (r (d + 1) - cut)) + ec ≤ nR) (hq : cap < r nD + (pl + cut - sm + ec) - r (d + 1)) (np : Nat) (hnp : np = max (r nD + (pl + cut - sm + ec) - r (d + 1)) (min nR (2 * cap))) : Met l yX0_assign wsX0_assign ({ frames := 4, cells := 2, slots := 2 * np, locals := 130 }) (va_Pc [.ref x, .int (nI d), .int mo, .long t] (fun U => U.heap.size = sz ∧ va_P (dC, dI) vwCl (wr x a1 a2 a3 a4 a5 a6 a7 cI cJ nD nR dv r cap ti va ev ed ec ad ac now) U.heap ∧ va_K (dC, dI) vwCl [(cI, .int), (cJ, .long)] U ∧ va_D (fun _ => True) (wr x a1 a2 a3 a4 a5 a6 a7 cI cJ nD nR dv r cap ti va ev ed ec ad ac now))) (va_Qi (fun (v : Int32) (_ : Unit) => v = nI (sm - pl + (r (d + 1) - cut))) (fun _ t9 => ∃ b3 b4 : Nat, va_P (dC, dI) vwCl (wr x a1 a2 b3 b4 a5 a6 a7 cI cJ nD nR dv (wf_sh r d (pl + cut - sm + ec) (r (d + 1)) (nD + 1)) np (wf_pt (va_cpy (va_cpy (va_cpy ti ti sm pl (cut - sm)) (fun _ => 0) 0 0 cap) (va_cpy (va_cpy ti ti sm pl (cut - sm)) (fun _ => 0) 0 0 cap) (r (d + 1)) (pl + cut - sm + ec) (r nD - r (d + 1))) (pl + cut - sm) (fun i => now + ed i) ec) (wf_pt (va_cpy (va_cpy (va_cpy va va sm pl (cut - sm)) (fun _ => 0) 0 0 cap) (va_cpy (va_cpy va va sm pl (cut - sm)) (fun _ => 0) 0 0 cap) (r (d + 1)) (pl + cut - sm + ec) (r nD - r (d + 1))) (pl + cut - sm) ev ec) ev ed 0 ad ac now) t9.heap ∧ va_K (dC, dI) vwCl [(cI, .int), (cJ, .long)] t9 ∧ va_D (va_A (wr x a1 a2 a3 a4 a5 a6 a7 cI cJ nD nR dv r cap ti va ev ed ec ad ac now) sz) (wr x a1 a2 b3 b4 a5 a6 a7 cI cJ nD nR dv (wf_sh r d (pl + cut - sm + ec) (r (d + 1)) (nD + 1)) np (wf_pt (va_cpy (va_cpy (va_cpy ti ti sm pl (cut - sm)) (fun _ => 0) 0 0 cap) (va_cpy (va_cpy ti ti sm pl (cut - sm)) (fun _ => 0) 0 0 cap) (r (d + 1)) (pl + cut - sm + ec) (r nD - r (d + 1))) (pl + cut - sm) (fun i => now + ed i) ec) (wf_pt (va_cpy (va_cpy (va_cpy va va sm pl (cut - sm)) (fun _ => 0) 0 0 cap) (va_cpy (va_cpy va va sm pl (cut - sm)) (fun _ => 0) 0 0 cap) (r (d + 1)) (pl + cut - sm + ec) (r nD - r (d + 1))) (pl + cut - sm) ev ec) ev ed 0 ad ac now)) (va_A (wr x a1 a2 a3 a4 a5 a6 a7 cI cJ nD nR dv r cap ti va ev ed ec ad ac now) sz)) 2 (2 * np) (va_A (wr x a1 a2 a3 a4 a5 a6 a7 cI cJ nD nR dv r cap ti va ev ed ec ad ac now) sz) := by
  refine Met.ofW (cc := cX0_assign) (maxL := 14) (ret := (some .int)) (by decide) rfl ?_
  intro p e s m args below meth c s₁ B hml hv
  obtain ⟨rfl, hsz, hP, hK, hD0⟩ := hv
  subst hsz
  have hD := hD0.self (sz := s.heap.size)
  generalize hAe : va_A (wr x a1 a2 a3 a4 a5 a6 a7 cI cJ nD nR dv r cap ti va ev ed ec ad ac now) s.heap.size = A at hD ⊢
  have hA : ∀ q : Nat, s.heap.size ≤ q → A q := fun q h => by rw [← hAe]; exact Or.inr h
  have hS : va_S A s.heap s.heap [] := va_S.rf
  have hx := B.exec
  have hb := B.bytes
  have hr := B.returns
  have hts := atoms_spec (ws := wsX0_assign) B.pre
  have hown : s.vm.findClass RX0 = some m.cls := findClass_of_methodNamed B.named
  have hlocks := B.notSynchronized
  have hall := fun (w : Cond) (h : w ∈ allw) => hts w (List.mem_cons_of_mem _ h)
  have hl := lv_entry ([.ref x, .int (nI d), .int mo, .long t]) (n := 14) (Nat.le_of_ble_eq_true rfl)
  rw [lg_entry_eq]
  generalize (lg_sl ([.ref x, .int (nI d), .int mo, .long t]) ++ List.replicate (14 - (lg_sl ([.ref x, .int (nI d), .int mo, .long t])).length) Slot.unset).toArray = ls at hl ⊢
  have hl : lv_has ls 14 [(0, .ref x), (1, .int (nI d)), (2, .int mo), (3, .long t)] := hl
  have hI0 := hI
  obtain ⟨hnD1, hnD, hnR1, hnR, hcap, hrc, hrR, hr0, hmo, hec, hac⟩ := hI
  have hle := wf_le hmo (show d + 1 ≤ nD by omega) (Nat.le_refl nD)
  have hmd := hmo d hd
  have hc := wf_fb_le ti (now + ed 0 - 1) (r (d + 1) - r d) (r d)
  rw [← hcut] at hc
  have hp := wf_fb_le ti (now + ed 0 - wf_lim mo (ed 0) t - 1) (cut - r d) (r d)
  rw [← hpl] at hp
  have hs := wf_ss_le va (ev 0) pl (cut - pl)
  rw [← hsm] at hs
  have hm3 : mo = 0 ∨ mo = 1 ∨ mo = 2 := hg.1.elim (fun q => Or.inr (Or.inr q.1)) (fun q => q.elim Or.inl (fun q => Or.inr (Or.inl q)))
  have hnp1 : cap < np := by omega
  have hnp2 : np ≤ 8192 := by omega
  refine lv_aload_n hx hb dX0_assign_0 rfl (lv_at hl 0 rfl) ?_
  refine lv_iload_n hx hb dX0_assign_1 rfl (lv_at hl 1 rfl) ?_
  refine xv_call (W.runV (As := [.int (nI d)]) (rest := []) ⟨hx, hb, hml, hown, hall⟩ (c_requireDriver l dC dI x a1 a2 a3 a4 a5 a6 a7 cI cJ nD nR dv r cap ti va ev ed ec ad ac now hI0 d hd) (cwV 1 hall gX0_62 rfl rfl rfl (by decide +kernel) ⟨Nat.le_of_ble_eq_true rfl, Nat.le_of_ble_eq_true rfl⟩) ⟨xr_blind, va_recv hK hP (ci := 0) (q0 := 0) rfl rfl, fun U hU hW => ⟨rfl, by rw [hU]; exact hP, va_K.moved hW.alike hK⟩⟩ rfl rfl hl.1 rfl (lv_room (Nat.le_of_ble_eq_true rfl)) dX0_assign_2 ⟨by first | exact Nat.zero_le _ | omega, by first | exact Nat.zero_le _ | omega⟩) (fun hv_2 => ?_)
  refine lv_aload_n hx hb dX0_assign_5 rfl (lv_at hl 0 rfl) ?_
  refine va_get (D := (dC, dI)) (ci := 0) (v := .int (nI ec)) (C := RX0) (T := TX0) (N := 12) hx hb hall inX0 hown hK hP 0 rfl rfl 8 (by decide) (hall _ kw_31) (fun _ h9 => h9) rfl dX0_assign_6 ?_
  refine xz_ne (tgt := 22) hx hb (by omega) dX0_assign_9 (by decide) (fun c_3 => ?_) (fun c_3 => ?_)
  · refine lv_aload_n hx hb dX0_assign_22 rfl (lv_at hl 0 rfl) ?_
    refine lv_iload_n hx hb dX0_assign_23 rfl (lv_at hl 2 rfl) ?_
    refine lv_lload_n hx hb dX0_assign_24 rfl (lv_at hl 3 rfl) ?_
    refine vp_callSi (W.runV (As := [.int mo, .long t]) (rest := []) ⟨hx, hb, hml, hown, hall⟩ (c_isLimitGood l dC dI x a1 a2 a3 a4 a5 a6 a7 cI cJ nD nR dv r cap ti va ev ed ec ad ac now mo t) (cwV 2 hall gX0_68 rfl rfl rfl (by decide +kernel) ⟨Nat.le_of_ble_eq_true rfl, Nat.le_of_ble_eq_true rfl⟩) ⟨xr_blind, va_recv hK hP (ci := 0) (q0 := 0) rfl rfl, fun U hU hW => ⟨rfl, by rw [hU]; exact hP, va_K.moved hW.alike hK⟩⟩ rfl rfl hl.1 rfl (lv_room (Nat.le_of_ble_eq_true rfl)) dX0_assign_25 ⟨by first | exact Nat.zero_le _ | omega, by first | exact Nat.zero_le _ | omega⟩) (fun v_4 hv_5 => ?_)
    obtain rfl : v_4 = 1 := hv_5.elim (fun q => q.1) (fun q => absurd hg.1 q.2)
    refine lv_if_eq (tgt := 38) hx hb dX0_assign_28 (by decide) (fun c_6 => ?_) (fun c_6 => ?_)
    · exact absurd c_6 (by decide)
    · refine lv_aload_n hx hb dX0_assign_31 rfl (lv_at hl 0 rfl) ?_
      refine vp_callSi (W.runV (As := []) (rest := []) ⟨hx, hb, hml, hown, hall⟩ (c_areDelaysGood l dC dI x a1 a2 a3 a4 a5 a6 a7 cI cJ nD nR dv r cap ti va ev ed ec ad ac now hI0) (cwV 0 hall gX0_72 rfl rfl rfl (by decide +kernel) ⟨Nat.le_of_ble_eq_true rfl, Nat.le_of_ble_eq_true rfl⟩) ⟨xr_blind, va_recv hK hP (ci := 0) (q0 := 0) rfl rfl, fun U hU hW => ⟨rfl, by rw [hU]; exact hP, va_K.moved hW.alike hK⟩⟩ rfl rfl hl.1 rfl (lv_room (Nat.le_of_ble_eq_true rfl)) dX0_assign_32 ⟨by first | exact Nat.zero_le _ | omega, by first | exact Nat.zero_le _ | omega⟩) (fun v_7 hv_8 => ?_)
      obtain rfl : v_7 = 1 := hv_8.elim (fun q => q.1) (fun q => absurd hg.2 q.2)
      refine lv_if_ne (tgt := 48) hx hb dX0_assign_35 (by decide) (fun c_9 => ?_) (fun c_9 => ?_)
      · refine lv_aload_n hx hb dX0_assign_48 rfl (lv_at hl 0 rfl) ?_
        refine va_get (D := (dC, dI)) (ci := 0) (v := .long now) (C := RX0) (T := TX0) (N := 12) hx hb hall inX0 hown hK hP 0 rfl rfl 11 (by decide) (hall _ kw_34) (fun _ h9 => h9) rfl dX0_assign_49 ?_
        refine lv_aload_n hx hb dX0_assign_52 rfl (lv_at hl 0 rfl) ?_
        refine va_get (D := (dC, dI)) (ci := 0) (v := .ref a6) (C := RX0) (T := TX0) (N := 12) hx hb hall inX0 hown hK hP 0 rfl rfl 7 (by decide) (hall _ kw_30) (fun _ h9 => h9) rfl dX0_assign_53 ?_
        refine lv_iconst (v := 0) hx hb dX0_assign_56 (by decide) ?_
        refine tp_i (y := nI 0) nI_0.symm ?_
        refine xa_lald hx hb hK hP 6 1 rfl rfl (by omega) (by omega) dX0_assign_57 ?_
        refine lv_ladd hx hb dX0_assign_58 ?_
        refine lv_lstore (lv' := [(5, .long (now + (ed 0))), (0, .ref x), (1, .int (nI d)), (2, .int mo), (3, .long t)]) hx hb dX0_assign_59 hl (by decide) rfl (fun ls hl => ?_)
        refine lv_aload_n hx hb dX0_assign_61 rfl (lv_at hl 1 rfl) ?_
        refine va_get (D := (dC, dI)) (ci := 0) (v := .ref a2) (C := RX0) (T := TX0) (N := 12) hx hb hall inX0 hown hK hP 0 rfl rfl 3 (by decide) (hall _ kw_26) (fun _ h9 => h9) rfl dX0_assign_62 ?_
        refine lv_iload_n hx hb dX0_assign_65 rfl (lv_at hl 2 rfl) ?_
        refine xa_iald hx hb hK hP 2 0 rfl rfl (by omega) (by omega) dX0_assign_66 ?_
        refine lv_istore (lv' := [(7, .int (nI (r d))), (5, .long (now + (ed 0))), (0, .ref x), (1, .int (nI d)), (2, .int mo), (3, .long t)]) hx hb dX0_assign_67 hl (by decide) rfl (fun ls hl => ?_)
        refine lv_aload_n hx hb dX0_assign_69 rfl (lv_at hl 2 rfl) ?_
        refine va_get (D := (dC, dI)) (ci := 0) (v := .ref a2) (C := RX0) (T := TX0) (N := 12) hx hb hall inX0 hown hK hP 0 rfl rfl 3 (by decide) (hall _ kw_26) (fun _ h9 => h9) rfl dX0_assign_70 ?_
        refine lv_iload_n hx hb dX0_assign_73 rfl (lv_at hl 3 rfl) ?_
        refine lv_iconst (v := 1) hx hb dX0_assign_74 (by decide) ?_
        refine lv_iadd hx hb dX0_assign_75 ?_
        refine tp_i (y := nI (d + 1)) (nI_1 d) ?_
        refine xa_iald hx hb hK hP 2 0 rfl rfl (by omega) (by omega) dX0_assign_76 ?_
        refine lv_istore (lv' := [(8, .int (nI (r (d + 1)))), (7, .int (nI (r d))), (5, .long (now + (ed 0))), (0, .ref x), (1, .int (nI d)), (2, .int mo), (3, .long t)]) hx hb dX0_assign_77 hl (by decide) rfl (fun ls hl => ?_)
        refine lv_aload_n hx hb dX0_assign_79 rfl (lv_at hl 3 rfl) ?_
        refine lv_iload hx hb dX0_assign_80 (lv_at hl 1 rfl) ?_
        refine lv_iload hx hb dX0_assign_82 (lv_at hl 0 rfl) ?_
        refine lv_lload hx hb dX0_assign_84 (lv_at hl 2 rfl) ?_
        refine lv_lconst (v := 1) hx hb dX0_assign_86 (by decide) ?_
        refine lv_lsub hx hb dX0_assign_87 ?_
        refine vp_callSi (W.runV (As := [.int (nI (r d)), .int (nI (r (d + 1))), .long ((now + (ed 0)) - 1)]) (rest := []) ⟨hx, hb, hml, hown, hall⟩ (c_firstBehind l dC dI x a1 a2 a3 a4 a5 a6 a7 cI cJ nD nR dv r cap ti va ev ed ec ad ac now (r d) (r (d + 1)) (now + ed 0 - 1) hmd (by omega) hcap) (cwV 3 hall gX0_82 rfl rfl rfl (by decide +kernel) ⟨Nat.le_of_ble_eq_true rfl, Nat.le_of_ble_eq_true rfl⟩) ⟨xr_blind, va_recv hK hP (ci := 0) (q0 := 0) rfl rfl, fun U hU hW => ⟨rfl, by rw [hU]; exact hP, va_K.moved hW.alike hK⟩⟩ rfl rfl hl.1 rfl (lv_room (Nat.le_of_ble_eq_true rfl)) dX0_assign_88 ⟨by first | exact Nat.zero_le _ | omega, by first | exact Nat.zero_le _ | omega⟩) (fun v_10 hv_11 => ?_)
        obtain rfl : v_10 = nI cut := hv_11.trans (by rw [← hcut])
        refine lv_istore (lv' := [(9, .int (nI cut)), (8, .int (nI (r (d + 1)))), (7, .int (nI (r d))), (5, .long (now + (ed 0))), (0, .ref x), (1, .int (nI d)), (2, .int mo), (3, .long t)]) hx hb dX0_assign_91 hl (by decide) rfl (fun ls hl => ?_)
        refine lv_aload_n hx hb dX0_assign_93 rfl (lv_at hl 4 rfl) ?_
        refine lv_iload hx hb dX0_assign_94 (lv_at hl 2 rfl) ?_
        refine lv_iload hx hb dX0_assign_96 (lv_at hl 0 rfl) ?_
        refine lv_lload hx hb dX0_assign_98 (lv_at hl 3 rfl) ?_
        refine lv_aload_n hx hb dX0_assign_100 rfl (lv_at hl 4 rfl) ?_
        refine lv_iload_n hx hb dX0_assign_101 rfl (lv_at hl 6 rfl) ?_
        refine lv_lload_n hx hb dX0_assign_102 rfl (lv_at hl 7 rfl) ?_
        refine vp_callSl (W.runV (As := [.int mo, .long t]) (rest := [.long (now + (ed 0)), .int (nI cut), .int (nI (r d)), .ref x]) ⟨hx, hb, hml, hown, hall⟩ (c_limitOf l dC dI x a1 a2 a3 a4 a5 a6 a7 cI cJ nD nR dv r cap ti va ev ed ec ad ac now mo t hm3) (cwV 2 hall gX0_86 rfl rfl rfl (by decide +kernel) ⟨Nat.le_of_ble_eq_true rfl, Nat.le_of_ble_eq_true rfl⟩) ⟨xr_blind, va_recv hK hP (ci := 0) (q0 := 0) rfl rfl, fun U hU hW => ⟨rfl, by rw [hU]; exact hP, va_K.moved hW.alike hK⟩⟩ rfl rfl hl.1 rfl (lv_room (Nat.le_of_ble_eq_true rfl)) dX0_assign_103 ⟨by first | exact Nat.zero_le _ | omega, by first | exact Nat.zero_le _ | omega⟩) (fun v_12 hv_13 => ?_)
        subst hv_13
        refine lv_lsub hx hb dX0_assign_106 ?_
        refine lv_lconst (v := 1) hx hb dX0_assign_107 (by decide) ?_
        refine lv_lsub hx hb dX0_assign_108 ?_
        refine vp_callSi (W.runV (As := [.int (nI (r d)), .int (nI cut), .long (((now + (ed 0)) - (wf_lim mo (ed 0) t)) - 1)]) (rest := []) ⟨hx, hb, hml, hown, hall⟩ (c_firstBehind l dC dI x a1 a2 a3 a4 a5 a6 a7 cI cJ nD nR dv r cap ti va ev ed ec ad ac now (r d) cut (now + ed 0 - wf_lim mo (ed 0) t - 1) hc.1 (by omega) hcap) (cwV 3 hall gX0_82 rfl rfl rfl (by decide +kernel) ⟨Nat.le_of_ble_eq_true rfl, Nat.le_of_ble_eq_true rfl⟩) ⟨xr_blind, va_recv hK hP (ci := 0) (q0 := 0) rfl rfl, fun U hU hW => ⟨rfl, by rw [hU]; exact hP, va_K.moved hW.alike hK⟩⟩ rfl rfl hl.1 rfl (lv_room (Nat.le_of_ble_eq_true rfl)) dX0_assign_109 ⟨by first | exact Nat.zero_le _ | omega, by first | exact Nat.zero_le _ | omega⟩) (fun v_14 hv_15 => ?_)
        obtain rfl : v_14 = nI pl := hv_15.trans (by rw [← hpl])
        refine lv_istore (lv' := [(10, .int (nI pl)), (9, .int (nI cut)), (8, .int (nI (r (d + 1)))), (7, .int (nI (r d))), (5, .long (now + (ed 0))), (0, .ref x), (1, .int (nI d)), (2, .int mo), (3, .long t)]) hx hb dX0_assign_112 hl (by decide) rfl (fun ls hl => ?_)
        refine lv_aload_n hx hb dX0_assign_114 rfl (lv_at hl 5 rfl) ?_
        refine lv_iload hx hb dX0_assign_115 (lv_at hl 0 rfl) ?_
        refine lv_iload hx hb dX0_assign_117 (lv_at hl 1 rfl) ?_
        refine lv_aload_n hx hb dX0_assign_119 rfl (lv_at hl 5 rfl) ?_
        refine va_get (D := (dC, dI)) (ci := 0) (v := .ref a5) (C := RX0) (T := TX0) (N := 12) hx hb hall inX0 hown hK hP 0 rfl rfl 6 (by decide) (hall _ kw_29) (fun _ h9 => h9) rfl dX0_assign_120 ?_
        refine lv_iconst (v := 0) hx hb dX0_assign_123 (by decide) ?_
        refine tp_i (y := nI 0) nI_0.symm ?_
        refine xa_lald hx hb hK hP 5 1 rfl rfl (by omega) (by omega) dX0_assign_124 ?_
        refine vp_callSi (W.runV (As := [.int (nI pl), .int (nI cut), .long (ev 0)]) (rest := []) ⟨hx, hb, hml, hown, hall⟩ (c_startOfSameValues l dC dI x a1 a2 a3 a4 a5 a6 a7 cI cJ nD nR dv r cap ti va ev ed ec ad ac now pl cut (ev 0) (by omega) (by omega) hcap) (cwV 3 hall gX0_90 rfl rfl rfl (by decide +kernel) ⟨Nat.le_of_ble_eq_true rfl, Nat.le_of_ble_eq_true rfl⟩) ⟨xr_blind, va_recv hK hP (ci := 0) (q0 := 0) rfl rfl, fun U hU hW => ⟨rfl, by rw [hU]; exact hP, va_K.moved hW.alike hK⟩⟩ rfl rfl hl.1 rfl (lv_room (Nat.le_of_ble_eq_true rfl)) dX0_assign_125 ⟨by first | exact Nat.zero_le _ | omega, by first | exact Nat.zero_le _ | omega⟩) (fun v_16 hv_17 => ?_)
        obtain rfl : v_16 = nI sm := hv_17.trans (by rw [← hsm])
        refine lv_istore (lv' := [(11, .int (nI sm)), (10, .int (nI pl)), (9, .int (nI cut)), (8, .int (nI (r (d + 1)))), (7, .int (nI (r d))), (5, .long (now + (ed 0))), (0, .ref x), (1, .int (nI d)), (2, .int mo), (3, .long t)]) hx hb dX0_assign_128 hl (by decide) rfl (fun ls hl => ?_)
        refine lv_iload hx hb dX0_assign_130 (lv_at hl 0 rfl) ?_
        refine lv_iload hx hb dX0_assign_132 (lv_at hl 1 rfl) ?_
        refine lv_isub hx hb dX0_assign_134 ?_
        refine tp_i (y := nI (sm - pl)) (pk_sub (by omega)) ?_
        refine lv_iload hx hb dX0_assign_135 (lv_at hl 3 rfl) ?_
        refine lv_iload hx hb dX0_assign_137 (lv_at hl 2 rfl) ?_
        refine lv_isub hx hb dX0_assign_139 ?_
        refine tp_i (y := nI (r (d + 1) - cut)) (pk_sub (by omega)) ?_
        refine lv_iadd hx hb dX0_assign_140 ?_
        refine tp_i (y := nI (sm - pl + (r (d + 1) - cut))) (nI_add _ _) ?_
        refine lv_istore (lv' := [(12, .int (nI (sm - pl + (r (d + 1) - cut)))), (11, .int (nI sm)), (10, .int (nI pl)), (9, .int (nI cut)), (8, .int (nI (r (d + 1)))), (7, .int (nI (r d))), (5, .long (now + (ed 0))), (0, .ref x), (1, .int (nI d)), (2, .int mo), (3, .long t)]) hx hb dX0_assign_141 hl (by decide) rfl (fun ls hl => ?_)
        refine lv_aload_n hx hb dX0_assign_143 rfl (lv_at hl 7 rfl) ?_
        refine va_get (D := (dC, dI)) (ci := 0) (v := .ref a2) (C := RX0) (T := TX0) (N := 12) hx hb hall inX0 hown hK hP 0 rfl rfl 3 (by decide) (hall _ kw_26) (fun _ h9 => h9) rfl dX0_assign_144 ?_
        refine lv_aload_n hx hb dX0_assign_147 rfl (lv_at hl 7 rfl) ?_
        refine va_get (D := (dC, dI)) (ci := 0) (v := .int (nI nD)) (C := RX0) (T := TX0) (N := 12) hx hb hall inX0 hown hK hP 0 rfl rfl 0 (by decide) (hall _ kw_23) (fun _ h9 => h9) rfl dX0_assign_148 ?_
        refine xa_iald hx hb hK hP 2 0 rfl rfl (by omega) (by omega) dX0_assign_151 ?_
        refine lv_iload hx hb dX0_assign_152 (lv_at hl 0 rfl) ?_
        refine lv_isub hx hb dX0_assign_154 ?_
        refine tp_i (y := nI (r nD - (sm - pl + (r (d + 1) - cut)))) (pk_sub (by omega)) ?_
        refine lv_aload_n hx hb dX0_assign_155 rfl (lv_at hl 7 rfl) ?_
        refine va_get (D := (dC, dI)) (ci := 0) (v := .int (nI ec)) (C := RX0) (T := TX0) (N := 12) hx hb hall inX0 hown hK hP 0 rfl rfl 8 (by decide) (hall _ kw_31) (fun _ h9 => h9) rfl dX0_assign_156 ?_
        refine lv_iadd hx hb dX0_assign_159 ?_
        refine tp_i (y := nI (r nD - (sm - pl + (r (d + 1) - cut)) + ec)) (nI_add _ _) ?_
        refine lv_aload_n hx hb dX0_assign_160 rfl (lv_at hl 7 rfl) ?_
        refine va_get (D := (dC, dI)) (ci := 0) (v := .int (nI nR)) (C := RX0) (T := TX0) (N := 12) hx hb hall inX0 hown hK hP 0 rfl rfl 1 (by decide) (hall _ kw_24) (fun _ h9 => h9) rfl dX0_assign_161 ?_
        refine xc_le (tgt := 177) hx hb (by omega) (by omega) dX0_assign_164 (by decide) (fun c_18 => ?_) (fun c_18 => ?_)
        · refine lv_iload hx hb dX0_assign_177 (lv_at hl 2 rfl) ?_
          refine lv_iload hx hb dX0_assign_179 (lv_at hl 3 rfl) ?_
          refine lv_iadd hx hb dX0_assign_181 ?_
          refine tp_i (y := nI (pl + cut)) (nI_add _ _) ?_
          refine lv_iload hx hb dX0_assign_182 (lv_at hl 1 rfl) ?_
          refine lv_isub hx hb dX0_assign_184 ?_
          refine tp_i (y := nI (pl + cut - sm)) (pk_sub (by omega)) ?_
          refine lv_istore (lv' := [(13, .int (nI (pl + cut - sm))), (12, .int (nI (sm - pl + (r (d + 1) - cut)))), (11, .int (nI sm)), (10, .int (nI pl)), (9, .int (nI cut)), (8, .int (nI (r (d + 1)))), (7, .int (nI (r d))), (5, .long (now + (ed 0))), (0, .ref x), (1, .int (nI d)), (2, .int mo), (3, .long t)]) hx hb dX0_assign_185 hl (by decide) rfl (fun ls hl => ?_)
          refine lv_aload_n hx hb dX0_assign_187 rfl (lv_at hl 8 rfl) ?_
          refine lv_iload hx hb dX0_assign_188 (lv_at hl 2 rfl) ?_
          refine lv_iload hx hb dX0_assign_190 (lv_at hl 3 rfl) ?_
          refine lv_iload hx hb dX0_assign_192 (lv_at hl 4 rfl) ?_
          refine lv_iload hx hb dX0_assign_194 (lv_at hl 2 rfl) ?_
          refine lv_isub hx hb dX0_assign_196 ?_
          refine tp_i (y := nI (cut - sm)) (pk_sub (by omega)) ?_
          have hFc := va_free (wc := [(x, .inr (0, [.int (nI nD), .int (nI nR), .ref a1, .ref a2, .ref a3, .ref a4, .ref a5, .ref a6, .int (nI ec), .ref a7, .int (nI ac), .long now])), (a1, .inl (cJ, nD, .inr (.inl dv))), (a2, .inl (cI, nD + 1, .inl (fun j => nI (r j)))), (a3, .inl (cJ, cap, .inr (.inl ti))), (a4, .inl (cJ, cap, .inr (.inl va))), (a5, .inl (cJ, 16, .inr (.inl ev))), (a6, .inl (cJ, 16, .inr (.inl ed))), (a7, .inl (cI, nD, .inl ad))]) hD hS hA [0, 1, 2, 3, 4, 5, 6, 7] rfl
          refine va_callv (va_runV (As := [.int (nI sm), .int (nI pl), .int (nI (cut - sm))]) (rest := []) ⟨hx, hb, hml, hown, hall⟩ (c_moveTransactions l dC dI x a1 a2 a3 a4 a5 a6 a7 cI cJ nD nR dv r cap ti va ev ed ec ad ac now s.heap.size sm pl (cut - sm) (by omega) (by omega) hcap) (cwV 3 hall gX0_95 rfl rfl rfl (by decide +kernel) ⟨Nat.le_of_ble_eq_true rfl, Nat.le_of_ble_eq_true rfl⟩) ⟨xu_blind, va_recv hK hP (ci := 0) (q0 := 0) rfl rfl, fun U hU hW => ⟨rfl, by rw [hU], by rw [hU]; exact hP, va_K.moved hW.alike hK, hD.weaken (fun _ _ _ _ => trivial)⟩⟩ rfl rfl hl.1 rfl (lv_room (Nat.le_of_ble_eq_true rfl)) dX0_assign_197 ⟨by show _ ≤ 2; omega, by show _ ≤ 2 * np; omega⟩) hS (fun q _ h => hFc q h) hFc (fun u9 t9 H1 locs ht hvm hw hB hz1 hk1 hS => ?_)
          obtain ⟨hP1, hK1, hD1⟩ := hB
          rw [ht] at hP1
          obtain ⟨hP, hD⟩ := va_join (wr := []) (w1 := [(x, .inr (0, [.int (nI nD), .int (nI nR), .ref a1, .ref a2, .ref a3, .ref a4, .ref a5, .ref a6, .int (nI ec), .ref a7, .int (nI ac), .long now])), (a1, .inl (cJ, nD, .inr (.inl dv))), (a2, .inl (cI, nD + 1, .inl (fun j => nI (r j)))), (a3, .inl (cJ, cap, .inr (.inl (va_cpy ti ti sm pl (cut - sm))))), (a4, .inl (cJ, cap, .inr (.inl (va_cpy va va sm pl (cut - sm))))), (a5, .inl (cJ, 16, .inr (.inl ev))), (a6, .inl (cJ, 16, .inr (.inl ed))), (a7, .inl (cI, nD, .inl ad))]) hP hD [0, 1, 2, 3, 4, 5, 6, 7] [] rfl rfl (by decide) (by decide) hk1 hFc hP1 hD1
          generalize H1 = H at hP hS ⊢
          have hP : va_P (dC, dI) vwCl [(x, .inr (0, [.int (nI nD), .int (nI nR), .ref a1, .ref a2, .ref a3, .ref a4, .ref a5, .ref a6, .int (nI ec), .ref a7, .int (nI ac), .long now])), (a1, .inl (cJ, nD, .inr (.inl dv))), (a2, .inl (cI, nD + 1, .inl (fun j => nI (r j)))), (a3, .inl (cJ, cap, .inr (.inl (va_cpy ti ti sm pl (cut - sm))))), (a4, .inl (cJ, cap, .inr (.inl (va_cpy va va sm pl (cut - sm))))), (a5, .inl (cJ, 16, .inr (.inl ev))), (a6, .inl (cJ, 16, .inr (.inl ed))), (a7, .inl (cI, nD, .inl ad))] H := hP
          have hD : va_D A [(x, .inr (0, [.int (nI nD), .int (nI nR), .ref a1, .ref a2, .ref a3, .ref a4, .ref a5, .ref a6, .int (nI ec), .ref a7, .int (nI ac), .long now])), (a1, .inl (cJ, nD, .inr (.inl dv))), (a2, .inl (cI, nD + 1, .inl (fun j => nI (r j)))), (a3, .inl (cJ, cap, .inr (.inl (va_cpy ti ti sm pl (cut - sm))))), (a4, .inl (cJ, cap, .inr (.inl (va_cpy va va sm pl (cut - sm))))), (a5, .inl (cJ, 16, .inr (.inl ev))), (a6, .inl (cJ, 16, .inr (.inl ed))), (a7, .inl (cI, nD, .inl ad))] := hD
          refine lv_aload_n hx hb dX0_assign_200 rfl (lv_at hl 8 rfl) ?_
          refine lv_iload_n hx hb dX0_assign_201 rfl (lv_at hl 9 rfl) ?_
          refine lv_iload hx hb dX0_assign_202 (lv_at hl 0 rfl) ?_
          refine lv_aload_n hx hb dX0_assign_204 rfl (lv_at hl 8 rfl) ?_
          refine va_get (D := (dC, dI)) (ci := 0) (v := .int (nI ec)) (C := RX0) (T := TX0) (N := 12) hx hb hall inX0 hown hK hP 0 rfl rfl 8 (by decide) (hall _ kw_31) (fun _ h9 => h9) rfl dX0_assign_205 ?_
          refine lv_iadd hx hb dX0_assign_208 ?_
          refine tp_i (y := nI (pl + cut - sm + ec)) (nI_add _ _) ?_
          have hFc := va_free (wc := [(x, .inr (0, [.int (nI nD), .int (nI nR), .ref a1, .ref a2, .ref a3, .ref a4, .ref a5, .ref a6, .int (nI ec), .ref a7, .int (nI ac), .long now])), (a1, .inl (cJ, nD, .inr (.inl dv))), (a2, .inl (cI, nD + 1, .inl (fun j => nI (r j)))), (a3, .inl (cJ, cap, .inr (.inl (va_cpy ti ti sm pl (cut - sm))))), (a4, .inl (cJ, cap, .inr (.inl (va_cpy va va sm pl (cut - sm))))), (a5, .inl (cJ, 16, .inr (.inl ev))), (a6, .inl (cJ, 16, .inr (.inl ed))), (a7, .inl (cI, nD, .inl ad))]) hD hS hA [0, 1, 2, 3, 4, 5, 6, 7] rfl
          refine va_callv (va_runV (As := [.int (nI d), .int (nI (pl + cut - sm + ec))]) (rest := []) ⟨hx, hb, hml, hown, hall⟩ (c_endRowAt2 l dC dI x a1 a2 a3 a4 a5 a6 a7 cI cJ nD nR dv r cap (va_cpy ti ti sm pl (cut - sm)) (va_cpy va va sm pl (cut - sm)) ev ed ec ad ac now H.size hI0 d (pl + cut - sm + ec) hd hq (by omega) np hnp) (cwV 2 hall gX0_99 rfl rfl rfl (by decide +kernel) ⟨Nat.le_of_ble_eq_true rfl, Nat.le_of_ble_eq_true rfl⟩) ⟨xu_blind, va_recv hK hP (ci := 0) (q0 := 0) rfl rfl, fun U hU hW => ⟨rfl, by rw [hU], by rw [hU]; exact hP, va_K.moved hW.alike hK, hD.weaken (fun _ _ _ _ => trivial)⟩⟩ rfl rfl hl.1 rfl (lv_room (Nat.le_of_ble_eq_true rfl)) dX0_assign_209 ⟨by show _ ≤ 2; omega, by show _ ≤ 2 * np; omega⟩) hS (fun q _ h => hFc q h) hFc (fun u9 t9 H1 locs ht hvm hw hB hz1 hk1 hS => ?_)
          obtain ⟨b3, b4, hP1, hK1, hD1⟩ := hB
          rw [ht] at hP1
          obtain ⟨hP, hD⟩ := va_join (wr := []) (w1 := [(x, .inr (0, [.int (nI nD), .int (nI nR), .ref a1, .ref a2, .ref b3, .ref b4, .ref a5, .ref a6, .int (nI ec), .ref a7, .int (nI ac), .long now])), (a1, .inl (cJ, nD, .inr (.inl dv))), (a2, .inl (cI, nD + 1, .inl (fun j => nI ((wf_sh r d (pl + cut - sm + ec) (r (d + 1)) (nD + 1)) j)))), (b3, .inl (cJ, np, .inr (.inl (va_cpy (va_cpy (va_cpy ti ti sm pl (cut - sm)) (fun _ => 0) 0 0 cap) (va_cpy (va_cpy ti ti sm pl (cut - sm)) (fun _ => 0) 0 0 cap) (r (d + 1)) (pl + cut - sm + ec) (r nD - r (d + 1)))))), (b4, .inl (cJ, np, .inr (.inl (va_cpy (va_cpy (va_cpy va va sm pl (cut - sm)) (fun _ => 0) 0 0 cap) (va_cpy (va_cpy va va sm pl (cut - sm)) (fun _ => 0) 0 0 cap) (r (d + 1)) (pl + cut - sm + ec) (r nD - r (d + 1)))))), (a5, .inl (cJ, 16, .inr (.inl ev))), (a6, .inl (cJ, 16, .inr (.inl ed))), (a7, .inl (cI, nD, .inl ad))]) hP hD [0, 1, 2, 3, 4, 5, 6, 7] [] rfl rfl (by decide) (by decide) hk1 hFc hP1 hD1
          generalize H1 = H at hP hS ⊢
          have hP : va_P (dC, dI) vwCl [(x, .inr (0, [.int (nI nD), .int (nI nR), .ref a1, .ref a2, .ref b3, .ref b4, .ref a5, .ref a6, .int (nI ec), .ref a7, .int (nI ac), .long now])), (a1, .inl (cJ, nD, .inr (.inl dv))), (a2, .inl (cI, nD + 1, .inl (fun j => nI ((wf_sh r d (pl + cut - sm + ec) (r (d + 1)) (nD + 1)) j)))), (b3, .inl (cJ, np, .inr (.inl (va_cpy (va_cpy (va_cpy ti ti sm pl (cut - sm)) (fun _ => 0) 0 0 cap) (va_cpy (va_cpy ti ti sm pl (cut - sm)) (fun _ => 0) 0 0 cap) (r (d + 1)) (pl + cut - sm + ec) (r nD - r (d + 1)))))), (b4, .inl (cJ, np, .inr (.inl (va_cpy (va_cpy (va_cpy va va sm pl (cut - sm)) (fun _ => 0) 0 0 cap) (va_cpy (va_cpy va va sm pl (cut - sm)) (fun _ => 0) 0 0 cap) (r (d + 1)) (pl + cut - sm + ec) (r nD - r (d + 1)))))), (a5, .inl (cJ, 16, .inr (.inl ev))), (a6, .inl (cJ, 16, .inr (.inl ed))), (a7, .inl (cI, nD, .inl ad))] H := hP
          have hD : va_D A [(x, .inr (0, [.int (nI nD), .int (nI nR), .ref a1, .ref a2, .ref b3, .ref b4, .ref a5, .ref a6, .int (nI ec), .ref a7, .int (nI ac), .long now])), (a1, .inl (cJ, nD, .inr (.inl dv))), (a2, .inl (cI, nD + 1, .inl (fun j => nI ((wf_sh r d (pl + cut - sm + ec) (r (d + 1)) (nD + 1)) j)))), (b3, .inl (cJ, np, .inr (.inl (va_cpy (va_cpy (va_cpy ti ti sm pl (cut - sm)) (fun _ => 0) 0 0 cap) (va_cpy (va_cpy ti ti sm pl (cut - sm)) (fun _ => 0) 0 0 cap) (r (d + 1)) (pl + cut - sm + ec) (r nD - r (d + 1)))))), (b4, .inl (cJ, np, .inr (.inl (va_cpy (va_cpy (va_cpy va va sm pl (cut - sm)) (fun _ => 0) 0 0 cap) (va_cpy (va_cpy va va sm pl (cut - sm)) (fun _ => 0) 0 0 cap) (r (d + 1)) (pl + cut - sm + ec) (r nD - r (d + 1)))))), (a5, .inl (cJ, 16, .inr (.inl ev))), (a6, .inl (cJ, 16, .inr (.inl ed))), (a7, .inl (cI, nD, .inl ad))] := hD
          refine W.widen (k := 2) (n := 2 * np) (by omega) (by omega) ?_
          refine lv_aload_n hx hb dX0_assign_212 rfl (lv_at hl 8 rfl) ?_
          refine lv_iload hx hb dX0_assign_213 (lv_at hl 0 rfl) ?_
          have hFc := va_free (wc := [(x, .inr (0, [.int (nI nD), .int (nI nR), .ref a1, .ref a2, .ref b3, .ref b4, .ref a5, .ref a6, .int (nI ec), .ref a7, .int (nI ac), .long now])), (a1, .inl (cJ, nD, .inr (.inl dv))), (a2, .inl (cI, nD + 1, .inl (fun j => nI ((wf_sh r d (pl + cut - sm + ec) (r (d + 1)) (nD + 1)) j)))), (b3, .inl (cJ, np, .inr (.inl (va_cpy (va_cpy (va_cpy ti ti sm pl (cut - sm)) (fun _ => 0) 0 0 cap) (va_cpy (va_cpy ti ti sm pl (cut - sm)) (fun _ => 0) 0 0 cap) (r (d + 1)) (pl + cut - sm + ec) (r nD - r (d + 1)))))), (b4, .inl (cJ, np, .inr (.inl (va_cpy (va_cpy (va_cpy va va sm pl (cut - sm)) (fun _ => 0) 0 0 cap) (va_cpy (va_cpy va va sm pl (cut - sm)) (fun _ => 0) 0 0 cap) (r (d + 1)) (pl + cut - sm + ec) (r nD - r (d + 1)))))), (a5, .inl (cJ, 16, .inr (.inl ev))), (a6, .inl (cJ, 16, .inr (.inl ed))), (a7, .inl (cI, nD, .inl ad))]) hD hS hA [0, 1, 2, 3, 4, 5, 6, 7] rfl
          refine va_callv (va_runV (As := [.int (nI (pl + cut - sm))]) (rest := []) ⟨hx, hb, hml, hown, hall⟩ (c_writeElements l dC dI x a1 a2 b3 b4 a5 a6 a7 cI cJ nD nR dv (wf_sh r d (pl + cut - sm + ec) (r (d + 1)) (nD + 1)) np (va_cpy (va_cpy (va_cpy ti ti sm pl (cut - sm)) (fun _ => 0) 0 0 cap) (va_cpy (va_cpy ti ti sm pl (cut - sm)) (fun _ => 0) 0 0 cap) (r (d + 1)) (pl + cut - sm + ec) (r nD - r (d + 1))) (va_cpy (va_cpy (va_cpy va va sm pl (cut - sm)) (fun _ => 0) 0 0 cap) (va_cpy (va_cpy va va sm pl (cut - sm)) (fun _ => 0) 0 0 cap) (r (d + 1)) (pl + cut - sm + ec) (r nD - r (d + 1))) ev ed ec ad ac now H.size (pl + cut - sm) (by omega) hnp2 hec) (cwV 1 hall gX0_103 rfl rfl rfl (by decide +kernel) ⟨Nat.le_of_ble_eq_true rfl, Nat.le_of_ble_eq_true rfl⟩) ⟨xu_blind, va_recv hK hP (ci := 0) (q0 := 0) rfl rfl, fun U hU hW => ⟨rfl, by rw [hU], by rw [hU]; exact hP, va_K.moved hW.alike hK, hD.weaken (fun _ _ _ _ => trivial)⟩⟩ rfl rfl hl.1 rfl (lv_room (Nat.le_of_ble_eq_true rfl)) dX0_assign_215 ⟨by show _ ≤ 2; omega, by show _ ≤ 2 * np; omega⟩) hS (fun q _ h => hFc q h) hFc (fun u9 t9 H1 locs ht hvm hw hB hz1 hk1 hS => ?_)
          obtain ⟨hP1, hK1, hD1⟩ := hB
          rw [ht] at hP1
          obtain ⟨hP, hD⟩ := va_join (wr := []) (w1 := [(x, .inr (0, [.int (nI nD), .int (nI nR), .ref a1, .ref a2, .ref b3, .ref b4, .ref a5, .ref a6, .int (nI ec), .ref a7, .int (nI ac), .long now])), (a1, .inl (cJ, nD, .inr (.inl dv))), (a2, .inl (cI, nD + 1, .inl (fun j => nI ((wf_sh r d (pl + cut - sm + ec) (r (d + 1)) (nD + 1)) j)))), (b3, .inl (cJ, np, .inr (.inl (wf_pt (va_cpy (va_cpy (va_cpy ti ti sm pl (cut - sm)) (fun _ => 0) 0 0 cap) (va_cpy (va_cpy ti ti sm pl (cut - sm)) (fun _ => 0) 0 0 cap) (r (d + 1)) (pl + cut - sm + ec) (r nD - r (d + 1))) (pl + cut - sm) (fun i => now + ed i) ec)))), (b4, .inl (cJ, np, .inr (.inl (wf_pt (va_cpy (va_cpy (va_cpy va va sm pl (cut - sm)) (fun _ => 0) 0 0 cap) (va_cpy (va_cpy va va sm pl (cut - sm)) (fun _ => 0) 0 0 cap) (r (d + 1)) (pl + cut - sm + ec) (r nD - r (d + 1))) (pl + cut - sm) ev ec)))), (a5, .inl (cJ, 16, .inr (.inl ev))), (a6, .inl (cJ, 16, .inr (.inl ed))), (a7, .inl (cI, nD, .inl ad))]) hP hD [0, 1, 2, 3, 4, 5, 6, 7] [] rfl rfl (by decide) (by decide) hk1 hFc hP1 hD1
          generalize H1 = H at hP hS ⊢
          have hP : va_P (dC, dI) vwCl [(x, .inr (0, [.int (nI nD), .int (nI nR), .ref a1, .ref a2, .ref b3, .ref b4, .ref a5, .ref a6, .int (nI ec), .ref a7, .int (nI ac), .long now])), (a1, .inl (cJ, nD, .inr (.inl dv))), (a2, .inl (cI, nD + 1, .inl (fun j => nI ((wf_sh r d (pl + cut - sm + ec) (r (d + 1)) (nD + 1)) j)))), (b3, .inl (cJ, np, .inr (.inl (wf_pt (va_cpy (va_cpy (va_cpy ti ti sm pl (cut - sm)) (fun _ => 0) 0 0 cap) (va_cpy (va_cpy ti ti sm pl (cut - sm)) (fun _ => 0) 0 0 cap) (r (d + 1)) (pl + cut - sm + ec) (r nD - r (d + 1))) (pl + cut - sm) (fun i => now + ed i) ec)))), (b4, .inl (cJ, np, .inr (.inl (wf_pt (va_cpy (va_cpy (va_cpy va va sm pl (cut - sm)) (fun _ => 0) 0 0 cap) (va_cpy (va_cpy va va sm pl (cut - sm)) (fun _ => 0) 0 0 cap) (r (d + 1)) (pl + cut - sm + ec) (r nD - r (d + 1))) (pl + cut - sm) ev ec)))), (a5, .inl (cJ, 16, .inr (.inl ev))), (a6, .inl (cJ, 16, .inr (.inl ed))), (a7, .inl (cI, nD, .inl ad))] H := hP
          have hD : va_D A [(x, .inr (0, [.int (nI nD), .int (nI nR), .ref a1, .ref a2, .ref b3, .ref b4, .ref a5, .ref a6, .int (nI ec), .ref a7, .int (nI ac), .long now])), (a1, .inl (cJ, nD, .inr (.inl dv))), (a2, .inl (cI, nD + 1, .inl (fun j => nI ((wf_sh r d (pl + cut - sm + ec) (r (d + 1)) (nD + 1)) j)))), (b3, .inl (cJ, np, .inr (.inl (wf_pt (va_cpy (va_cpy (va_cpy ti ti sm pl (cut - sm)) (fun _ => 0) 0 0 cap) (va_cpy (va_cpy ti ti sm pl (cut - sm)) (fun _ => 0) 0 0 cap) (r (d + 1)) (pl + cut - sm + ec) (r nD - r (d + 1))) (pl + cut - sm) (fun i => now + ed i) ec)))), (b4, .inl (cJ, np, .inr (.inl (wf_pt (va_cpy (va_cpy (va_cpy va va sm pl (cut - sm)) (fun _ => 0) 0 0 cap) (va_cpy (va_cpy va va sm pl (cut - sm)) (fun _ => 0) 0 0 cap) (r (d + 1)) (pl + cut - sm + ec) (r nD - r (d + 1))) (pl + cut - sm) ev ec)))), (a5, .inl (cJ, 16, .inr (.inl ev))), (a6, .inl (cJ, 16, .inr (.inl ed))), (a7, .inl (cI, nD, .inl ad))] := hD
          refine lv_aload_n hx hb dX0_assign_218 rfl (lv_at hl 8 rfl) ?_
          refine lv_iconst (v := 0) hx hb dX0_assign_219 (by decide) ?_
          refine tp_i (y := nI 0) nI_0.symm ?_
          refine va_put (D := (dC, dI)) (ci := 0) (v := .int (nI 0)) (ty := .int) (C := RX0) (T := TX0) (N := 12) hx hb hall inX0 tyX0 tyX0_ok nmX0 hown hK hP hD hS 0 rfl rfl 8 (by decide) (hall _ kw_31) (fun _ h9 => h9) rfl (by decide +kernel) rfl rfl (Nat.le_of_ble_eq_true rfl) dX0_assign_220 (fun H locs hP hD hS => ?_)
          have hP : va_P (dC, dI) vwCl [(x, .inr (0, [.int (nI nD), .int (nI nR), .ref a1, .ref a2, .ref b3, .ref b4, .ref a5, .ref a6, .int (nI 0), .ref a7, .int (nI ac), .long now])), (a1, .inl (cJ, nD, .inr (.inl dv))), (a2, .inl (cI, nD + 1, .inl (fun j => nI ((wf_sh r d (pl + cut - sm + ec) (r (d + 1)) (nD + 1)) j)))), (b3, .inl (cJ, np, .inr (.inl (wf_pt (va_cpy (va_cpy (va_cpy ti ti sm pl (cut - sm)) (fun _ => 0) 0 0 cap) (va_cpy (va_cpy ti ti sm pl (cut - sm)) (fun _ => 0) 0 0 cap) (r (d + 1)) (pl + cut - sm + ec) (r nD - r (d + 1))) (pl + cut - sm) (fun i => now + ed i) ec)))), (b4, .inl (cJ, np, .inr (.inl (wf_pt (va_cpy (va_cpy (va_cpy va va sm pl (cut - sm)) (fun _ => 0) 0 0 cap) (va_cpy (va_cpy va va sm pl (cut - sm)) (fun _ => 0) 0 0 cap) (r (d + 1)) (pl + cut - sm + ec) (r nD - r (d + 1))) (pl + cut - sm) ev ec)))), (a5, .inl (cJ, 16, .inr (.inl ev))), (a6, .inl (cJ, 16, .inr (.inl ed))), (a7, .inl (cI, nD, .inl ad))] H := hP
          have hD : va_D A [(x, .inr (0, [.int (nI nD), .int (nI nR), .ref a1, .ref a2, .ref b3, .ref b4, .ref a5, .ref a6, .int (nI 0), .ref a7, .int (nI ac), .long now])), (a1, .inl (cJ, nD, .inr (.inl dv))), (a2, .inl (cI, nD + 1, .inl (fun j => nI ((wf_sh r d (pl + cut - sm + ec) (r (d + 1)) (nD + 1)) j)))), (b3, .inl (cJ, np, .inr (.inl (wf_pt (va_cpy (va_cpy (va_cpy ti ti sm pl (cut - sm)) (fun _ => 0) 0 0 cap) (va_cpy (va_cpy ti ti sm pl (cut - sm)) (fun _ => 0) 0 0 cap) (r (d + 1)) (pl + cut - sm + ec) (r nD - r (d + 1))) (pl + cut - sm) (fun i => now + ed i) ec)))), (b4, .inl (cJ, np, .inr (.inl (wf_pt (va_cpy (va_cpy (va_cpy va va sm pl (cut - sm)) (fun _ => 0) 0 0 cap) (va_cpy (va_cpy va va sm pl (cut - sm)) (fun _ => 0) 0 0 cap) (r (d + 1)) (pl + cut - sm + ec) (r nD - r (d + 1))) (pl + cut - sm) ev ec)))), (a5, .inl (cJ, 16, .inr (.inl ev))), (a6, .inl (cJ, 16, .inr (.inl ed))), (a7, .inl (cI, nD, .inl ad))] := hD
          refine lv_iload hx hb dX0_assign_223 (lv_at hl 1 rfl) ?_
          exact W.iret (v := nI (sm - pl + (r (d + 1) - cut))) hx hb hr (fun t9 ht hW => ⟨⟨nI (sm - pl + (r (d + 1) - cut)), (), rfl, rfl, b3, b4, by rw [ht]; exact hP, va_K.moved hW.alike hK, hD⟩, hS.F ht⟩) hS.2.2 dX0_assign_225
        · exact absurd c_18 (by omega)
      · exact absurd c_9 (by decide)
  · exact absurd c_3 (by omega)
end
section
set_option maxHeartbeats 4000000 in
set_option maxRecDepth 100000 in
theorem c_init (l : Launch) (dC : Nat → ClassId) (dI : Nat → Nat → Nat) (x : Nat) (sz : Nat) (i j : Int32) (nD nR pl : Nat) (hi : wf_in i 512 512 64 nD) (hj : wf_in j 8192 8192 1024 nR) (hpl : pl = min nR 64) : Met l yX0_init wsX0_init ({ frames := 1, cells := 7, slots := nD + (nD + 1) + nD + pl + pl + 16 + 16, locals := 60 }) (va_Pc [.ref x, .int i, .int j] (fun U => U.heap.size = sz ∧ va_P (dC, dI) vwCl [(x, .inr (0, [.int 0, .int 0, .null, .null, .null, .null, .null, .null, .int (nI 0), .null, .int (nI 0), .long 0]))] U.heap ∧ va_K (dC, dI) vwCl [] U ∧ va_D (fun _ => True) [(x, .inr (0, [.int 0, .int 0, .null, .null, .null, .null, .null, .null, .int (nI 0), .null, .int (nI 0), .long 0]))])) (va_Qv (fun _ : Unit => True) (fun _ t9 => ∃ (a1 a2 a3 a4 a5 a6 a7 : Nat) (cI cJ : ClassId), va_P (dC, dI) vwCl (wr x a1 a2 a3 a4 a5 a6 a7 cI cJ nD nR (fun _ => 0) (fun _ => 0) pl (fun _ => 0) (fun _ => 0) (fun _ => 0) (fun _ => 0) 0 (fun _ => nI 0) 0 0) t9.heap ∧ va_K (dC, dI) vwCl [(cI, .int), (cJ, .long)] t9 ∧ va_D (va_A [(x, .inr (0, [.int 0, .int 0, .null, .null, .null, .null, .null, .null, .int (nI 0), .null, .int (nI 0), .long 0]))] sz) (wr x a1 a2 a3 a4 a5 a6 a7 cI cJ nD nR (fun _ => 0) (fun _ => 0) pl (fun _ => 0) (fun _ => 0) (fun _ => 0) (fun _ => 0) 0 (fun _ => nI 0) 0 0)) (va_A [(x, .inr (0, [.int 0, .int 0, .null, .null, .null, .null, .null, .null, .int (nI 0), .null, .int (nI 0), .long 0]))] sz)) 7 (nD + (nD + 1) + nD + pl + pl + 16 + 16) (va_A [(x, .inr (0, [.int 0, .int 0, .null, .null, .null, .null, .null, .null, .int (nI 0), .null, .int (nI 0), .long 0]))] sz) := by
  refine Met.ofW (cc := cX0_init) (maxL := 4) (ret := none) (by decide) rfl ?_
  intro p e s m args below meth c s₁ B hml hv
  obtain ⟨rfl, hsz, hP, hK, hD0⟩ := hv
  subst hsz
  have hD := hD0.self (sz := s.heap.size)
  generalize hAe : va_A [(x, .inr (0, [.int 0, .int 0, .null, .null, .null, .null, .null, .null, .int (nI 0), .null, .int (nI 0), .long 0]))] s.heap.size = A at hD ⊢
  have hA : ∀ q : Nat, s.heap.size ≤ q → A q := fun q h => by rw [← hAe]; exact Or.inr h
  have hS : va_S A s.heap s.heap [] := va_S.rf
  have hx := B.exec
  have hb := B.bytes
  have hr := B.returns
  have hts := atoms_spec (ws := wsX0_init) B.pre
  have hown : s.vm.findClass RX0 = some m.cls := findClass_of_methodNamed B.named
  have hlocks := B.notSynchronized
  have hall := fun (w : Cond) (h : w ∈ allw) => hts w (List.mem_cons_of_mem _ h)
  have hl := lv_entry ([.ref x, .int i, .int j]) (n := 4) (Nat.le_of_ble_eq_true rfl)
  rw [lg_entry_eq]
  generalize (lg_sl ([.ref x, .int i, .int j]) ++ List.replicate (4 - (lg_sl ([.ref x, .int i, .int j])).length) Slot.unset).toArray = ls at hl ⊢
  have hl : lv_has ls 4 [(0, .ref x), (1, .int i), (2, .int j)] := hl
  have hin9 : meth.name = "<init>" := (name_of_methodNamed B.named B.method).1
  have hnD : 1 ≤ nD ∧ nD ≤ 512 := hi.elim (fun q => q.2.2.2) (fun q => by omega)
  have hnR : 1 ≤ nR ∧ nR ≤ 8192 := hj.elim (fun q => q.2.2.2) (fun q => by omega)
  refine lv_aload_n hx hb dX0_init_0 rfl (lv_at hl 0 rfl) ?_
  refine W.objInit hx hb hown (hall _ kw_17) (hall _ kw_18) (hall _ kw_19) rfl (by rw [hml]; exact hl.1) rfl dX0_init_1 (Nat.le_of_ble_eq_true rfl) (Nat.le_of_ble_eq_true rfl) ?_
  refine W.eq (g2 := F0 m 4 ls []) rfl ?_
  have h46 : ∀ (H : Heap) (locs : List Loc), va_P (dC, dI) vwCl [(x, .inr (0, [.int (nI nD), .int 0, .null, .null, .null, .null, .null, .null, .int (nI 0), .null, .int (nI 0), .long 0]))] H → va_D A [(x, .inr (0, [.int (nI nD), .int 0, .null, .null, .null, .null, .null, .null, .int (nI 0), .null, .int (nI 0), .long 0]))] → va_S A s.heap H locs → W p l e (headSpec wsX0_init ({ frames := 1, cells := 7, slots := nD + (nD + 1) + nD + pl + pl + 16 + 16, locals := 60 })).room s m (([.ref x, .int i, .int j] : List Value).toArray) below meth c H locs 0 0 (MQ below (va_Qv (fun _ : Unit => True) (fun _ t9 => ∃ (a1 a2 a3 a4 a5 a6 a7 : Nat) (cI cJ : ClassId), va_P (dC, dI) vwCl (wr x a1 a2 a3 a4 a5 a6 a7 cI cJ nD nR (fun _ => 0) (fun _ => 0) pl (fun _ => 0) (fun _ => 0) (fun _ => 0) (fun _ => 0) 0 (fun _ => nI 0) 0 0) t9.heap ∧ va_K (dC, dI) vwCl [(cI, .int), (cJ, .long)] t9 ∧ va_D A (wr x a1 a2 a3 a4 a5 a6 a7 cI cJ nD nR (fun _ => 0) (fun _ => 0) pl (fun _ => 0) (fun _ => 0) (fun _ => 0) (fun _ => 0) 0 (fun _ => nI 0) 0 0)) A) (([.ref x, .int i, .int j] : List Value).toArray) s 7 (nD + (nD + 1) + nD + pl + pl + 16 + 16) A) (F0 m 46 ls [.int (nI nR), .ref x]) := by
    intro H locs hP hD hS
    refine va_putF (D := (dC, dI)) (ci := 0) (v := .int (nI nR)) (ty := .int) (C := RX0) (T := TX0) (N := 12) hx hb hall inX0 tyX0 tyX0_ok nmX0 hown hK hP hD hS 0 rfl rfl 1 (by decide) (hall _ kw_24) (fun _ h9 => h9) rfl hin9 rfl (by decide +kernel) rfl rfl (Nat.le_of_ble_eq_true rfl) dX0_init_46 (fun H locs hP hD hS => ?_)
    have hP : va_P (dC, dI) vwCl [(x, .inr (0, [.int (nI nD), .int (nI nR), .null, .null, .null, .null, .null, .null, .int (nI 0), .null, .int (nI 0), .long 0]))] H := hP
    have hD : va_D A [(x, .inr (0, [.int (nI nD), .int (nI nR), .null, .null, .null, .null, .null, .null, .int (nI 0), .null, .int (nI 0), .long 0]))] := hD
    refine lv_aload_n hx hb dX0_init_49 rfl (lv_at hl 0 rfl) ?_
    refine lv_aload_n hx hb dX0_init_50 rfl (lv_at hl 0 rfl) ?_
    refine va_get (D := (dC, dI)) (ci := 0) (v := .int (nI nD)) (C := RX0) (T := TX0) (N := 12) hx hb hall inX0 hown hK hP 0 rfl rfl 0 (by decide) (hall _ kw_23) (fun _ h9 => h9) rfl dX0_init_51 ?_
    refine xa_newl (N := nD) hx hb (hall _ kw_60) hK hP hD hS hA (by omega) (by show _ ≤ 7; omega) (by show _ ≤ nD + (nD + 1) + nD + pl + pl + 16 + 16; omega) dX0_init_54 (fun a1 cJ H hK hP hD hS => ?_)
    have hP : va_P (dC, dI) vwCl [(x, .inr (0, [.int (nI nD), .int (nI nR), .null, .null, .null, .null, .null, .null, .int (nI 0), .null, .int (nI 0), .long 0])), (a1, .inl (cJ, nD, .inr (.inl (fun _ => 0))))] H := hP
    have hD : va_D A [(x, .inr (0, [.int (nI nD), .int (nI nR), .null, .null, .null, .null, .null, .null, .int (nI 0), .null, .int (nI 0), .long 0])), (a1, .inl (cJ, nD, .inr (.inl (fun _ => 0))))] := hD
    refine va_putF (D := (dC, dI)) (ci := 0) (v := .ref a1) (ty := (.array .long)) (C := RX0) (T := TX0) (N := 12) hx hb hall inX0 tyX0 tyX0_ok nmX0 hown hK hP hD hS 0 rfl rfl 2 (by decide) (hall _ kw_25) (fun _ h9 => h9) rfl hin9 rfl (by decide +kernel) rfl rfl (Nat.le_of_ble_eq_true rfl) dX0_init_56 (fun H locs hP hD hS => ?_)
    have hP : va_P (dC, dI) vwCl [(x, .inr (0, [.int (nI nD), .int (nI nR), .ref a1, .null, .null, .null, .null, .null, .int (nI 0), .null, .int (nI 0), .long 0])), (a1, .inl (cJ, nD, .inr (.inl (fun _ => 0))))] H := hP
    have hD : va_D A [(x, .inr (0, [.int (nI nD), .int (nI nR), .ref a1, .null, .null, .null, .null, .null, .int (nI 0), .null, .int (nI 0), .long 0])), (a1, .inl (cJ, nD, .inr (.inl (fun _ => 0))))] := hD
    refine lv_aload_n hx hb dX0_init_59 rfl (lv_at hl 0 rfl) ?_
    refine lv_aload_n hx hb dX0_init_60 rfl (lv_at hl 0 rfl) ?_
    refine va_get (D := (dC, dI)) (ci := 0) (v := .int (nI nD)) (C := RX0) (T := TX0) (N := 12) hx hb hall inX0 hown hK hP 0 rfl rfl 0 (by decide) (hall _ kw_23) (fun _ h9 => h9) rfl dX0_init_61 ?_
    refine lv_iconst (v := 1) hx hb dX0_init_64 (by decide) ?_
    refine lv_iadd hx hb dX0_init_65 ?_
    refine tp_i (y := nI (nD + 1)) (nI_1 nD) ?_
    refine xa_newi (N := (nD + 1)) hx hb (hall _ kw_61) hK hP hD hS hA (by omega) (by show _ ≤ 7; omega) (by show _ ≤ nD + (nD + 1) + nD + pl + pl + 16 + 16; omega) dX0_init_66 (fun a2 cI H hK hP hD hS => ?_)
    have hP : va_P (dC, dI) vwCl [(x, .inr (0, [.int (nI nD), .int (nI nR), .ref a1, .null, .null, .null, .null, .null, .int (nI 0), .null, .int (nI 0), .long 0])), (a1, .inl (cJ, nD, .inr (.inl (fun _ => 0)))), (a2, .inl (cI, (nD + 1), .inl (fun _ => 0)))] H := hP
    have hD : va_D A [(x, .inr (0, [.int (nI nD), .int (nI nR), .ref a1, .null, .null, .null, .null, .null, .int (nI 0), .null, .int (nI 0), .long 0])), (a1, .inl (cJ, nD, .inr (.inl (fun _ => 0)))), (a2, .inl (cI, (nD + 1), .inl (fun _ => 0)))] := hD
    refine va_putF (D := (dC, dI)) (ci := 0) (v := .ref a2) (ty := (.array .int)) (C := RX0) (T := TX0) (N := 12) hx hb hall inX0 tyX0 tyX0_ok nmX0 hown hK hP hD hS 0 rfl rfl 3 (by decide) (hall _ kw_26) (fun _ h9 => h9) rfl hin9 rfl (by decide +kernel) rfl rfl (Nat.le_of_ble_eq_true rfl) dX0_init_68 (fun H locs hP hD hS => ?_)
    have hP : va_P (dC, dI) vwCl [(x, .inr (0, [.int (nI nD), .int (nI nR), .ref a1, .ref a2, .null, .null, .null, .null, .int (nI 0), .null, .int (nI 0), .long 0])), (a1, .inl (cJ, nD, .inr (.inl (fun _ => 0)))), (a2, .inl (cI, (nD + 1), .inl (fun _ => 0)))] H := hP
    have hD : va_D A [(x, .inr (0, [.int (nI nD), .int (nI nR), .ref a1, .ref a2, .null, .null, .null, .null, .int (nI 0), .null, .int (nI 0), .long 0])), (a1, .inl (cJ, nD, .inr (.inl (fun _ => 0)))), (a2, .inl (cI, (nD + 1), .inl (fun _ => 0)))] := hD
    refine lv_aload_n hx hb dX0_init_71 rfl (lv_at hl 0 rfl) ?_
    refine lv_aload_n hx hb dX0_init_72 rfl (lv_at hl 0 rfl) ?_
    refine va_get (D := (dC, dI)) (ci := 0) (v := .int (nI nD)) (C := RX0) (T := TX0) (N := 12) hx hb hall inX0 hown hK hP 0 rfl rfl 0 (by decide) (hall _ kw_23) (fun _ h9 => h9) rfl dX0_init_73 ?_
    refine xa_newi (N := nD) hx hb (hall _ kw_61) hK hP hD hS hA (by omega) (by show _ ≤ 7; omega) (by show _ ≤ nD + (nD + 1) + nD + pl + pl + 16 + 16; omega) dX0_init_76 (fun a7 cA H hK hP hD hS => ?_)
    obtain rfl : cI = cA := xk_sameI hK (t1 := 1) (t2 := 2) rfl rfl
    have hK := hK.sub (tys' := [(cJ, .long), (cI, .int)]) [0, 1] rfl
    have hP : va_P (dC, dI) vwCl [(x, .inr (0, [.int (nI nD), .int (nI nR), .ref a1, .ref a2, .null, .null, .null, .null, .int (nI 0), .null, .int (nI 0), .long 0])), (a1, .inl (cJ, nD, .inr (.inl (fun _ => 0)))), (a2, .inl (cI, (nD + 1), .inl (fun _ => 0))), (a7, .inl (cI, nD, .inl (fun _ => 0)))] H := hP
    have hD : va_D A [(x, .inr (0, [.int (nI nD), .int (nI nR), .ref a1, .ref a2, .null, .null, .null, .null, .int (nI 0), .null, .int (nI 0), .long 0])), (a1, .inl (cJ, nD, .inr (.inl (fun _ => 0)))), (a2, .inl (cI, (nD + 1), .inl (fun _ => 0))), (a7, .inl (cI, nD, .inl (fun _ => 0)))] := hD
    refine va_putF (D := (dC, dI)) (ci := 0) (v := .ref a7) (ty := (.array .int)) (C := RX0) (T := TX0) (N := 12) hx hb hall inX0 tyX0 tyX0_ok nmX0 hown hK hP hD hS 0 rfl rfl 9 (by decide) (hall _ kw_32) (fun _ h9 => h9) rfl hin9 rfl (by decide +kernel) rfl rfl (Nat.le_of_ble_eq_true rfl) dX0_init_78 (fun H locs hP hD hS => ?_)
    have hP : va_P (dC, dI) vwCl [(x, .inr (0, [.int (nI nD), .int (nI nR), .ref a1, .ref a2, .null, .null, .null, .null, .int (nI 0), .ref a7, .int (nI 0), .long 0])), (a1, .inl (cJ, nD, .inr (.inl (fun _ => 0)))), (a2, .inl (cI, (nD + 1), .inl (fun _ => 0))), (a7, .inl (cI, nD, .inl (fun _ => 0)))] H := hP
    have hD : va_D A [(x, .inr (0, [.int (nI nD), .int (nI nR), .ref a1, .ref a2, .null, .null, .null, .null, .int (nI 0), .ref a7, .int (nI 0), .long 0])), (a1, .inl (cJ, nD, .inr (.inl (fun _ => 0)))), (a2, .inl (cI, (nD + 1), .inl (fun _ => 0))), (a7, .inl (cI, nD, .inl (fun _ => 0)))] := hD
    refine lv_aload_n hx hb dX0_init_81 rfl (lv_at hl 0 rfl) ?_
    refine va_get (D := (dC, dI)) (ci := 0) (v := .int (nI nR)) (C := RX0) (T := TX0) (N := 12) hx hb hall inX0 hown hK hP 0 rfl rfl 1 (by decide) (hall _ kw_24) (fun _ h9 => h9) rfl dX0_init_82 ?_
    refine lv_bipush (v := 64) hx hb dX0_init_85 (by decide) ?_
    refine tp_i (y := nI 64) (by decide) ?_
    refine va_mmin hx hb (hml.trans hl.1.symm) hown (hall _ kw_20) (hall _ kw_21) (hall _ kw_2) (hall _ kw_22) (Nat.le_of_ble_eq_true rfl) (Nat.le_of_ble_eq_true rfl) (by show _ ≤ 7; omega) (by show _ ≤ nD + (nD + 1) + nD + pl + pl + 16 + 16; omega) dX0_init_87 ?_
    refine tp_i (y := nI pl) ((xm_min (by omega) (by omega)).trans (by rw [hpl])) ?_
    refine lv_istore_n (lv' := [(3, .int (nI pl)), (0, .ref x), (1, .int i), (2, .int j)]) hx hb dX0_init_90 rfl hl (by decide) rfl (fun ls hl => ?_)
    refine lv_aload_n hx hb dX0_init_91 rfl (lv_at hl 1 rfl) ?_
    refine lv_iload_n hx hb dX0_init_92 rfl (lv_at hl 0 rfl) ?_
    refine xa_newl (N := pl) hx hb (hall _ kw_60) hK hP hD hS hA (by omega) (by show _ ≤ 7; omega) (by show _ ≤ nD + (nD + 1) + nD + pl + pl + 16 + 16; omega) dX0_init_93 (fun a3 cA H hK hP hD hS => ?_)
    obtain rfl : cJ = cA := xk_sameL hK (t1 := 0) (t2 := 2) rfl rfl
    have hK := hK.sub (tys' := [(cJ, .long), (cI, .int)]) [0, 1] rfl
    have hP : va_P (dC, dI) vwCl [(x, .inr (0, [.int (nI nD), .int (nI nR), .ref a1, .ref a2, .null, .null, .null, .null, .int (nI 0), .ref a7, .int (nI 0), .long 0])), (a1, .inl (cJ, nD, .inr (.inl (fun _ => 0)))), (a2, .inl (cI, (nD + 1), .inl (fun _ => 0))), (a7, .inl (cI, nD, .inl (fun _ => 0))), (a3, .inl (cJ, pl, .inr (.inl (fun _ => 0))))] H := hP
    have hD : va_D A [(x, .inr (0, [.int (nI nD), .int (nI nR), .ref a1, .ref a2, .null, .null, .null, .null, .int (nI 0), .ref a7, .int (nI 0), .long 0])), (a1, .inl (cJ, nD, .inr (.inl (fun _ => 0)))), (a2, .inl (cI, (nD + 1), .inl (fun _ => 0))), (a7, .inl (cI, nD, .inl (fun _ => 0))), (a3, .inl (cJ, pl, .inr (.inl (fun _ => 0))))] := hD
    refine va_put (D := (dC, dI)) (ci := 0) (v := .ref a3) (ty := (.array .long)) (C := RX0) (T := TX0) (N := 12) hx hb hall inX0 tyX0 tyX0_ok nmX0 hown hK hP hD hS 0 rfl rfl 4 (by decide) (hall _ kw_27) (fun _ h9 => h9) rfl (by decide +kernel) rfl rfl (Nat.le_of_ble_eq_true rfl) dX0_init_95 (fun H locs hP hD hS => ?_)
    have hP : va_P (dC, dI) vwCl [(x, .inr (0, [.int (nI nD), .int (nI nR), .ref a1, .ref a2, .ref a3, .null, .null, .null, .int (nI 0), .ref a7, .int (nI 0), .long 0])), (a1, .inl (cJ, nD, .inr (.inl (fun _ => 0)))), (a2, .inl (cI, (nD + 1), .inl (fun _ => 0))), (a7, .inl (cI, nD, .inl (fun _ => 0))), (a3, .inl (cJ, pl, .inr (.inl (fun _ => 0))))] H := hP
    have hD : va_D A [(x, .inr (0, [.int (nI nD), .int (nI nR), .ref a1, .ref a2, .ref a3, .null, .null, .null, .int (nI 0), .ref a7, .int (nI 0), .long 0])), (a1, .inl (cJ, nD, .inr (.inl (fun _ => 0)))), (a2, .inl (cI, (nD + 1), .inl (fun _ => 0))), (a7, .inl (cI, nD, .inl (fun _ => 0))), (a3, .inl (cJ, pl, .inr (.inl (fun _ => 0))))] := hD
    refine lv_aload_n hx hb dX0_init_98 rfl (lv_at hl 1 rfl) ?_
    refine lv_iload_n hx hb dX0_init_99 rfl (lv_at hl 0 rfl) ?_
    refine xa_newl (N := pl) hx hb (hall _ kw_60) hK hP hD hS hA (by omega) (by show _ ≤ 7; omega) (by show _ ≤ nD + (nD + 1) + nD + pl + pl + 16 + 16; omega) dX0_init_100 (fun a4 cA H hK hP hD hS => ?_)
    obtain rfl : cJ = cA := xk_sameL hK (t1 := 0) (t2 := 2) rfl rfl
    have hK := hK.sub (tys' := [(cJ, .long), (cI, .int)]) [0, 1] rfl
    have hP : va_P (dC, dI) vwCl [(x, .inr (0, [.int (nI nD), .int (nI nR), .ref a1, .ref a2, .ref a3, .null, .null, .null, .int (nI 0), .ref a7, .int (nI 0), .long 0])), (a1, .inl (cJ, nD, .inr (.inl (fun _ => 0)))), (a2, .inl (cI, (nD + 1), .inl (fun _ => 0))), (a7, .inl (cI, nD, .inl (fun _ => 0))), (a3, .inl (cJ, pl, .inr (.inl (fun _ => 0)))), (a4, .inl (cJ, pl, .inr (.inl (fun _ => 0))))] H := hP
    have hD : va_D A [(x, .inr (0, [.int (nI nD), .int (nI nR), .ref a1, .ref a2, .ref a3, .null, .null, .null, .int (nI 0), .ref a7, .int (nI 0), .long 0])), (a1, .inl (cJ, nD, .inr (.inl (fun _ => 0)))), (a2, .inl (cI, (nD + 1), .inl (fun _ => 0))), (a7, .inl (cI, nD, .inl (fun _ => 0))), (a3, .inl (cJ, pl, .inr (.inl (fun _ => 0)))), (a4, .inl (cJ, pl, .inr (.inl (fun _ => 0))))] := hD
    refine va_put (D := (dC, dI)) (ci := 0) (v := .ref a4) (ty := (.array .long)) (C := RX0) (T := TX0) (N := 12) hx hb hall inX0 tyX0 tyX0_ok nmX0 hown hK hP hD hS 0 rfl rfl 5 (by decide) (hall _ kw_28) (fun _ h9 => h9) rfl (by decide +kernel) rfl rfl (Nat.le_of_ble_eq_true rfl) dX0_init_102 (fun H locs hP hD hS => ?_)
    have hP : va_P (dC, dI) vwCl [(x, .inr (0, [.int (nI nD), .int (nI nR), .ref a1, .ref a2, .ref a3, .ref a4, .null, .null, .int (nI 0), .ref a7, .int (nI 0), .long 0])), (a1, .inl (cJ, nD, .inr (.inl (fun _ => 0)))), (a2, .inl (cI, (nD + 1), .inl (fun _ => 0))), (a7, .inl (cI, nD, .inl (fun _ => 0))), (a3, .inl (cJ, pl, .inr (.inl (fun _ => 0)))), (a4, .inl (cJ, pl, .inr (.inl (fun _ => 0))))] H := hP
    have hD : va_D A [(x, .inr (0, [.int (nI nD), .int (nI nR), .ref a1, .ref a2, .ref a3, .ref a4, .null, .null, .int (nI 0), .ref a7, .int (nI 0), .long 0])), (a1, .inl (cJ, nD, .inr (.inl (fun _ => 0)))), (a2, .inl (cI, (nD + 1), .inl (fun _ => 0))), (a7, .inl (cI, nD, .inl (fun _ => 0))), (a3, .inl (cJ, pl, .inr (.inl (fun _ => 0)))), (a4, .inl (cJ, pl, .inr (.inl (fun _ => 0))))] := hD
    refine lv_aload_n hx hb dX0_init_105 rfl (lv_at hl 1 rfl) ?_
    refine lv_bipush (v := 16) hx hb dX0_init_106 (by decide) ?_
    refine tp_i (y := nI 16) (by decide) ?_
    refine xa_newl (N := 16) hx hb (hall _ kw_60) hK hP hD hS hA (by omega) (by show _ ≤ 7; omega) (by show _ ≤ nD + (nD + 1) + nD + pl + pl + 16 + 16; omega) dX0_init_108 (fun a5 cA H hK hP hD hS => ?_)
    obtain rfl : cJ = cA := xk_sameL hK (t1 := 0) (t2 := 2) rfl rfl
    have hK := hK.sub (tys' := [(cJ, .long), (cI, .int)]) [0, 1] rfl
    have hP : va_P (dC, dI) vwCl [(x, .inr (0, [.int (nI nD), .int (nI nR), .ref a1, .ref a2, .ref a3, .ref a4, .null, .null, .int (nI 0), .ref a7, .int (nI 0), .long 0])), (a1, .inl (cJ, nD, .inr (.inl (fun _ => 0)))), (a2, .inl (cI, (nD + 1), .inl (fun _ => 0))), (a7, .inl (cI, nD, .inl (fun _ => 0))), (a3, .inl (cJ, pl, .inr (.inl (fun _ => 0)))), (a4, .inl (cJ, pl, .inr (.inl (fun _ => 0)))), (a5, .inl (cJ, 16, .inr (.inl (fun _ => 0))))] H := hP
    have hD : va_D A [(x, .inr (0, [.int (nI nD), .int (nI nR), .ref a1, .ref a2, .ref a3, .ref a4, .null, .null, .int (nI 0), .ref a7, .int (nI 0), .long 0])), (a1, .inl (cJ, nD, .inr (.inl (fun _ => 0)))), (a2, .inl (cI, (nD + 1), .inl (fun _ => 0))), (a7, .inl (cI, nD, .inl (fun _ => 0))), (a3, .inl (cJ, pl, .inr (.inl (fun _ => 0)))), (a4, .inl (cJ, pl, .inr (.inl (fun _ => 0)))), (a5, .inl (cJ, 16, .inr (.inl (fun _ => 0))))] := hD
    refine va_putF (D := (dC, dI)) (ci := 0) (v := .ref a5) (ty := (.array .long)) (C := RX0) (T := TX0) (N := 12) hx hb hall inX0 tyX0 tyX0_ok nmX0 hown hK hP hD hS 0 rfl rfl 6 (by decide) (hall _ kw_29) (fun _ h9 => h9) rfl hin9 rfl (by decide +kernel) rfl rfl (Nat.le_of_ble_eq_true rfl) dX0_init_110 (fun H locs hP hD hS => ?_)
    have hP : va_P (dC, dI) vwCl [(x, .inr (0, [.int (nI nD), .int (nI nR), .ref a1, .ref a2, .ref a3, .ref a4, .ref a5, .null, .int (nI 0), .ref a7, .int (nI 0), .long 0])), (a1, .inl (cJ, nD, .inr (.inl (fun _ => 0)))), (a2, .inl (cI, (nD + 1), .inl (fun _ => 0))), (a7, .inl (cI, nD, .inl (fun _ => 0))), (a3, .inl (cJ, pl, .inr (.inl (fun _ => 0)))), (a4, .inl (cJ, pl, .inr (.inl (fun _ => 0)))), (a5, .inl (cJ, 16, .inr (.inl (fun _ => 0))))] H := hP
    have hD : va_D A [(x, .inr (0, [.int (nI nD), .int (nI nR), .ref a1, .ref a2, .ref a3, .ref a4, .ref a5, .null, .int (nI 0), .ref a7, .int (nI 0), .long 0])), (a1, .inl (cJ, nD, .inr (.inl (fun _ => 0)))), (a2, .inl (cI, (nD + 1), .inl (fun _ => 0))), (a7, .inl (cI, nD, .inl (fun _ => 0))), (a3, .inl (cJ, pl, .inr (.inl (fun _ => 0)))), (a4, .inl (cJ, pl, .inr (.inl (fun _ => 0)))), (a5, .inl (cJ, 16, .inr (.inl (fun _ => 0))))] := hD
    refine lv_aload_n hx hb dX0_init_113 rfl (lv_at hl 1 rfl) ?_
    refine lv_bipush (v := 16) hx hb dX0_init_114 (by decide) ?_
    refine tp_i (y := nI 16) (by decide) ?_
    refine xa_newl (N := 16) hx hb (hall _ kw_60) hK hP hD hS hA (by omega) (by show _ ≤ 7; omega) (by show _ ≤ nD + (nD + 1) + nD + pl + pl + 16 + 16; omega) dX0_init_116 (fun a6 cA H hK hP hD hS => ?_)
    obtain rfl : cJ = cA := xk_sameL hK (t1 := 0) (t2 := 2) rfl rfl
    have hK := hK.sub (tys' := [(cJ, .long), (cI, .int)]) [0, 1] rfl
    have hP : va_P (dC, dI) vwCl [(x, .inr (0, [.int (nI nD), .int (nI nR), .ref a1, .ref a2, .ref a3, .ref a4, .ref a5, .null, .int (nI 0), .ref a7, .int (nI 0), .long 0])), (a1, .inl (cJ, nD, .inr (.inl (fun _ => 0)))), (a2, .inl (cI, (nD + 1), .inl (fun _ => 0))), (a7, .inl (cI, nD, .inl (fun _ => 0))), (a3, .inl (cJ, pl, .inr (.inl (fun _ => 0)))), (a4, .inl (cJ, pl, .inr (.inl (fun _ => 0)))), (a5, .inl (cJ, 16, .inr (.inl (fun _ => 0)))), (a6, .inl (cJ, 16, .inr (.inl (fun _ => 0))))] H := hP
    have hD : va_D A [(x, .inr (0, [.int (nI nD), .int (nI nR), .ref a1, .ref a2, .ref a3, .ref a4, .ref a5, .null, .int (nI 0), .ref a7, .int (nI 0), .long 0])), (a1, .inl (cJ, nD, .inr (.inl (fun _ => 0)))), (a2, .inl (cI, (nD + 1), .inl (fun _ => 0))), (a7, .inl (cI, nD, .inl (fun _ => 0))), (a3, .inl (cJ, pl, .inr (.inl (fun _ => 0)))), (a4, .inl (cJ, pl, .inr (.inl (fun _ => 0)))), (a5, .inl (cJ, 16, .inr (.inl (fun _ => 0)))), (a6, .inl (cJ, 16, .inr (.inl (fun _ => 0))))] := hD
    refine va_putF (D := (dC, dI)) (ci := 0) (v := .ref a6) (ty := (.array .long)) (C := RX0) (T := TX0) (N := 12) hx hb hall inX0 tyX0 tyX0_ok nmX0 hown hK hP hD hS 0 rfl rfl 7 (by decide) (hall _ kw_30) (fun _ h9 => h9) rfl hin9 rfl (by decide +kernel) rfl rfl (Nat.le_of_ble_eq_true rfl) dX0_init_118 (fun H locs hP hD hS => ?_)
    have hP : va_P (dC, dI) vwCl [(x, .inr (0, [.int (nI nD), .int (nI nR), .ref a1, .ref a2, .ref a3, .ref a4, .ref a5, .ref a6, .int (nI 0), .ref a7, .int (nI 0), .long 0])), (a1, .inl (cJ, nD, .inr (.inl (fun _ => 0)))), (a2, .inl (cI, (nD + 1), .inl (fun _ => 0))), (a7, .inl (cI, nD, .inl (fun _ => 0))), (a3, .inl (cJ, pl, .inr (.inl (fun _ => 0)))), (a4, .inl (cJ, pl, .inr (.inl (fun _ => 0)))), (a5, .inl (cJ, 16, .inr (.inl (fun _ => 0)))), (a6, .inl (cJ, 16, .inr (.inl (fun _ => 0))))] H := hP
    have hD : va_D A [(x, .inr (0, [.int (nI nD), .int (nI nR), .ref a1, .ref a2, .ref a3, .ref a4, .ref a5, .ref a6, .int (nI 0), .ref a7, .int (nI 0), .long 0])), (a1, .inl (cJ, nD, .inr (.inl (fun _ => 0)))), (a2, .inl (cI, (nD + 1), .inl (fun _ => 0))), (a7, .inl (cI, nD, .inl (fun _ => 0))), (a3, .inl (cJ, pl, .inr (.inl (fun _ => 0)))), (a4, .inl (cJ, pl, .inr (.inl (fun _ => 0)))), (a5, .inl (cJ, 16, .inr (.inl (fun _ => 0)))), (a6, .inl (cJ, 16, .inr (.inl (fun _ => 0))))] := hD
    have hP := hP.sub (ws' := [(x, .inr (0, [.int (nI nD), .int (nI nR), .ref a1, .ref a2, .ref a3, .ref a4, .ref a5, .ref a6, .int (nI 0), .ref a7, .int (nI 0), .long 0])), (a1, .inl (cJ, nD, .inr (.inl (fun _ => 0)))), (a2, .inl (cI, (nD + 1), .inl (fun _ => 0))), (a3, .inl (cJ, pl, .inr (.inl (fun _ => 0)))), (a4, .inl (cJ, pl, .inr (.inl (fun _ => 0)))), (a5, .inl (cJ, 16, .inr (.inl (fun _ => 0)))), (a6, .inl (cJ, 16, .inr (.inl (fun _ => 0)))), (a7, .inl (cI, nD, .inl (fun _ => 0)))]) [0, 1, 2, 4, 5, 6, 7, 3] rfl
    have hD := hD.sub (ws' := [(x, .inr (0, [.int (nI nD), .int (nI nR), .ref a1, .ref a2, .ref a3, .ref a4, .ref a5, .ref a6, .int (nI 0), .ref a7, .int (nI 0), .long 0])), (a1, .inl (cJ, nD, .inr (.inl (fun _ => 0)))), (a2, .inl (cI, (nD + 1), .inl (fun _ => 0))), (a3, .inl (cJ, pl, .inr (.inl (fun _ => 0)))), (a4, .inl (cJ, pl, .inr (.inl (fun _ => 0)))), (a5, .inl (cJ, 16, .inr (.inl (fun _ => 0)))), (a6, .inl (cJ, 16, .inr (.inl (fun _ => 0)))), (a7, .inl (cI, nD, .inl (fun _ => 0)))]) [0, 1, 2, 4, 5, 6, 7, 3] (by decide) rfl
    have hP : va_P (dC, dI) vwCl (wr x a1 a2 a3 a4 a5 a6 a7 cI cJ nD nR (fun _ => 0) (fun _ => 0) pl (fun _ => 0) (fun _ => 0) (fun _ => 0) (fun _ => 0) 0 (fun _ => nI 0) 0 0) H := hP
    have hD : va_D A (wr x a1 a2 a3 a4 a5 a6 a7 cI cJ nD nR (fun _ => 0) (fun _ => 0) pl (fun _ => 0) (fun _ => 0) (fun _ => 0) (fun _ => 0) 0 (fun _ => nI 0) 0 0) := hD
    have hK := hK.sub (tys' := [(cI, .int), (cJ, .long)]) [1, 0] rfl
    refine W.widen (k := 7) (n := nD + (nD + 1) + nD + pl + pl + 16 + 16) (by omega) (by omega) ?_
    exact W.vret hx hb hr (fun t9 ht hW => ⟨⟨(), rfl, trivial, a1, a2, a3, a4, a5, a6, a7, cI, cJ, by rw [ht]; exact hP, va_K.moved hW.alike hK, hD⟩, hS.F ht⟩) hS.2.2 dX0_init_121
  have h23 : W p l e (headSpec wsX0_init ({ frames := 1, cells := 7, slots := nD + (nD + 1) + nD + pl + pl + 16 + 16, locals := 60 })).room s m (([.ref x, .int i, .int j] : List Value).toArray) below meth c s.heap [] 0 0 (MQ below (va_Qv (fun _ : Unit => True) (fun _ t9 => ∃ (a1 a2 a3 a4 a5 a6 a7 : Nat) (cI cJ : ClassId), va_P (dC, dI) vwCl (wr x a1 a2 a3 a4 a5 a6 a7 cI cJ nD nR (fun _ => 0) (fun _ => 0) pl (fun _ => 0) (fun _ => 0) (fun _ => 0) (fun _ => 0) 0 (fun _ => nI 0) 0 0) t9.heap ∧ va_K (dC, dI) vwCl [(cI, .int), (cJ, .long)] t9 ∧ va_D A (wr x a1 a2 a3 a4 a5 a6 a7 cI cJ nD nR (fun _ => 0) (fun _ => 0) pl (fun _ => 0) (fun _ => 0) (fun _ => 0) (fun _ => 0) 0 (fun _ => nI 0) 0 0)) A) (([.ref x, .int i, .int j] : List Value).toArray) s 7 (nD + (nD + 1) + nD + pl + pl + 16 + 16) A) (F0 m 23 ls [.int (nI nD), .ref x]) := by
    refine va_putF (D := (dC, dI)) (ci := 0) (v := .int (nI nD)) (ty := .int) (C := RX0) (T := TX0) (N := 12) hx hb hall inX0 tyX0 tyX0_ok nmX0 hown hK hP hD hS 0 rfl rfl 0 (by decide) (hall _ kw_23) (fun _ h9 => h9) rfl hin9 rfl (by decide +kernel) rfl rfl (Nat.le_of_ble_eq_true rfl) dX0_init_23 (fun H locs hP hD hS => ?_)
    have hP : va_P (dC, dI) vwCl [(x, .inr (0, [.int (nI nD), .int 0, .null, .null, .null, .null, .null, .null, .int (nI 0), .null, .int (nI 0), .long 0]))] H := hP
    have hD : va_D A [(x, .inr (0, [.int (nI nD), .int 0, .null, .null, .null, .null, .null, .null, .int (nI 0), .null, .int (nI 0), .long 0]))] := hD
    refine lv_aload_n hx hb dX0_init_26 rfl (lv_at hl 0 rfl) ?_
    refine lv_iload_n hx hb dX0_init_27 rfl (lv_at hl 2 rfl) ?_
    refine lv_iconst (v := 1) hx hb dX0_init_28 (by decide) ?_
    refine lv_icmp_lt (tgt := 43) hx hb dX0_init_29 (by decide) (fun c_1 => ?_) (fun c_1 => ?_)
    · have c_C := c_1
      refine lv_sipush (v := 1024) hx hb dX0_init_43 (by decide) ?_
      refine tp_i (y := nI nR) (hj.elim (fun q => by first | exact absurd c_C q.1 | exact absurd c_D q.2.1) (fun q => by rw [q.2]; decide)) ?_
      exact h46 H locs hP hD hS
    · have c_C := c_1
      refine lv_iload_n hx hb dX0_init_32 rfl (lv_at hl 2 rfl) ?_
      refine lv_sipush (v := 8192) hx hb dX0_init_33 (by decide) ?_
      refine lv_icmp_gt (tgt := 43) hx hb dX0_init_36 (by decide) (fun c_2 => ?_) (fun c_2 => ?_)
      · have c_D := c_2
        refine lv_sipush (v := 1024) hx hb dX0_init_43 (by decide) ?_
        refine tp_i (y := nI nR) (hj.elim (fun q => by first | exact absurd c_C q.1 | exact absurd c_D q.2.1) (fun q => by rw [q.2]; decide)) ?_
        exact h46 H locs hP hD hS
      · have c_D := c_2
        refine lv_iload_n hx hb dX0_init_39 rfl (lv_at hl 2 rfl) ?_
        refine lv_goto (tgt := 46) hx hb dX0_init_40 (by decide) ?_
        refine tp_i (y := nI nR) (hj.elim (fun q => q.2.2.1) (fun q => absurd q.1 (fun q => q.elim c_C c_D))) ?_
        exact h46 H locs hP hD hS
  refine lv_aload_n hx hb dX0_init_4 rfl (lv_at hl 0 rfl) ?_
  refine lv_iload_n hx hb dX0_init_5 rfl (lv_at hl 1 rfl) ?_
  refine lv_iconst (v := 1) hx hb dX0_init_6 (by decide) ?_
  refine lv_icmp_lt (tgt := 21) hx hb dX0_init_7 (by decide) (fun c_3 => ?_) (fun c_3 => ?_)
  · have c_A := c_3
    refine lv_bipush (v := 64) hx hb dX0_init_21 (by decide) ?_
    refine tp_i (y := nI nD) (hi.elim (fun q => by first | exact absurd c_A q.1 | exact absurd c_B q.2.1) (fun q => by rw [q.2]; decide)) ?_
    exact h23
  · have c_A := c_3
    refine lv_iload_n hx hb dX0_init_10 rfl (lv_at hl 1 rfl) ?_
    refine lv_sipush (v := 512) hx hb dX0_init_11 (by decide) ?_
    refine lv_icmp_gt (tgt := 21) hx hb dX0_init_14 (by decide) (fun c_4 => ?_) (fun c_4 => ?_)
    · have c_B := c_4
      refine lv_bipush (v := 64) hx hb dX0_init_21 (by decide) ?_
      refine tp_i (y := nI nD) (hi.elim (fun q => by first | exact absurd c_A q.1 | exact absurd c_B q.2.1) (fun q => by rw [q.2]; decide)) ?_
      exact h23
    · have c_B := c_4
      refine lv_iload_n hx hb dX0_init_17 rfl (lv_at hl 1 rfl) ?_
      refine lv_goto (tgt := 23) hx hb dX0_init_18 (by decide) ?_
      refine tp_i (y := nI nD) (hi.elim (fun q => q.2.2.1) (fun q => absurd q.1 (fun q => q.elim c_A c_B))) ?_
      exact h23
end
section
/-! the reference: booleans in arrays, counted numbers alike or not, its list of transactions (owner, time, value) -/
def bI (b : Bool) : Int32 := if b then 1 else 0
def ub (g : Nat → Bool) (k : Nat) (v : Bool) : Nat → Bool := fun j => if j = k then v else g j
theorem bI_t : (1 : Int32) = bI true := rfl
theorem bI_f : (0 : Int32) = bI false := rfl
theorem bI_nar (b : Bool) : vp_nar .boolean (bI b) = bI b := by cases b <;> rfl
theorem ub_upd (g : Nat → Bool) (k : Nat) (v : Bool) : upd (fun j => bI (g j)) k (bI v) = fun j => bI (ub g k v j) := by
  funext j
  unfold ub
  by_cases h : j = k
  · subst h; rw [pk_us, if_pos rfl]
  · rw [pk_un h, if_neg h]
section XA3
variable {p : Program} {l : Launch} {e : Env} {R : Room} {s : State} {m : MethodId} {args : Array Value} {below : List Frame} {meth : Method} {c : Code} {H : Heap} {locs : List Loc} {cells slots : Nat} {Q : State → Prop}
variable {cc : ByteArray} {pc : Nat} {ls : Array Slot} {rest : List Value} {D : va_G} {cl : List vw_C} {ws : va_W} {tys : List (ClassId × FieldType)} {A : Nat → Prop} {H0 : Heap} {a : Nat}
theorem xa_zald (hx : p.tables.exec = Jvm.exec) (hb : c.code = cc) (hK : va_K D cl tys s) (hP : va_P D cl ws H) (q0 t0 : Nat) {cA : ClassId} {n : Nat} {g : Nat → Bool} (ha : ws[q0]? = some (a, .inl (cA, n, .inl (fun j => bI (g j))))) (ht : tys[t0]? = some (cA, .boolean)) {k : Nat} (hk : k < n) (hn : n < 2 ^ 31) (hdg : decode cc pc = .ok (.baload, 1))
    (kk : W p l e R s m args below meth c H locs cells slots Q (F0 m (pc + 1) ls (.int (bI (g k)) :: rest))) : W p l e R s m args below meth c H locs cells slots Q (F0 m pc ls (.int (nI k) :: .ref a :: rest)) := by
  refine va_zald hx hb hK hP q0 t0 ha ht (vp_in_nI hk hn) hdg ?_
  rw [nI_clamp (Nat.lt_trans hk hn)]; exact kk
theorem xa_zast (hx : p.tables.exec = Jvm.exec) (hb : c.code = cc) (hK : va_K D cl tys s) (hP : va_P D cl ws H) (hD : va_D A ws) (hS : va_S A H0 H locs) (q0 t0 : Nat) {cA : ClassId} {n : Nat} {g : Nat → Bool} (ha : ws[q0]? = some (a, .inl (cA, n, .inl (fun j => bI (g j))))) (ht : tys[t0]? = some (cA, .boolean)) {k : Nat} {v : Bool} (hk : k < n) (hn : n < 2 ^ 31) (hdg : decode cc pc = .ok (.bastore, 1))
    (kk : ∀ (H1 : Heap) (locs1 : List Loc), va_P D cl (ws.set q0 (a, .inl (cA, n, .inl (fun j => bI (ub g k v j))))) H1 → va_D A (ws.set q0 (a, .inl (cA, n, .inl (fun j => bI (ub g k v j))))) → va_S A H0 H1 locs1 → W p l e R s m args below meth c H1 locs1 cells slots Q (F0 m (pc + 1) ls rest)) : W p l e R s m args below meth c H locs cells slots Q (F0 m pc ls (.int (bI v) :: .int (nI k) :: .ref a :: rest)) := by
  refine va_zast hx hb hK hP hD hS q0 t0 ha ht (vp_in_nI hk hn) hdg ?_
  rw [nI_clamp (Nat.lt_trans hk hn), bI_nar, ub_upd]; exact kk
theorem xb_eq {b : Bool} {off : Int} {tgt : Nat} (hx : p.tables.exec = Jvm.exec) (hb : c.code = cc) (d : decode cc pc = .ok (.ifCond .eq off, 3)) (ht : (pc : Int) + off = (tgt : Int))
    (kt : b = false → W p l e R s m args below meth c H locs cells slots Q (F0 m tgt ls rest)) (kf : b = true → W p l e R s m args below meth c H locs cells slots Q (F0 m (pc + 3) ls rest)) : W p l e R s m args below meth c H locs cells slots Q (F0 m pc ls (.int (bI b) :: rest)) :=
  lv_if_eq hx hb d ht (fun h => kt (by cases b; rfl; exact absurd h (by decide))) (fun h => kf (by cases b; exact absurd (by decide) h; rfl))
theorem xb_ne {b : Bool} {off : Int} {tgt : Nat} (hx : p.tables.exec = Jvm.exec) (hb : c.code = cc) (d : decode cc pc = .ok (.ifCond .ne off, 3)) (ht : (pc : Int) + off = (tgt : Int))
    (kt : b = true → W p l e R s m args below meth c H locs cells slots Q (F0 m tgt ls rest)) (kf : b = false → W p l e R s m args below meth c H locs cells slots Q (F0 m (pc + 3) ls rest)) : W p l e R s m args below meth c H locs cells slots Q (F0 m pc ls (.int (bI b) :: rest)) :=
  lv_if_ne hx hb d ht (fun h => kt (by cases b; exact absurd (by decide) h; rfl)) (fun h => kf (by cases b; rfl; exact absurd h (by decide)))
theorem xc_ne {i j : Nat} {off : Int} {tgt : Nat} (hx : p.tables.exec = Jvm.exec) (hb : c.code = cc) (hi : i < 2 ^ 31) (hj : j < 2 ^ 31) (d : decode cc pc = .ok (.if_icmp .ne off, 3)) (ht : (pc : Int) + off = (tgt : Int))
    (kt : ¬ i = j → W p l e R s m args below meth c H locs cells slots Q (F0 m tgt ls rest)) (kf : i = j → W p l e R s m args below meth c H locs cells slots Q (F0 m (pc + 3) ls rest)) : W p l e R s m args below meth c H locs cells slots Q (F0 m pc ls (.int (nI j) :: .int (nI i) :: rest)) :=
  lv_icmp_ne hx hb d ht (fun h => kt (fun q => h ((nI_eq hi hj).mpr q))) (fun h => kf ((nI_eq hi hj).mp h))
theorem xc_eq {i j : Nat} {off : Int} {tgt : Nat} (hx : p.tables.exec = Jvm.exec) (hb : c.code = cc) (hi : i < 2 ^ 31) (hj : j < 2 ^ 31) (d : decode cc pc = .ok (.if_icmp .eq off, 3)) (ht : (pc : Int) + off = (tgt : Int))
    (kt : i = j → W p l e R s m args below meth c H locs cells slots Q (F0 m tgt ls rest)) (kf : ¬ i = j → W p l e R s m args below meth c H locs cells slots Q (F0 m (pc + 3) ls rest)) : W p l e R s m args below meth c H locs cells slots Q (F0 m pc ls (.int (nI j) :: .int (nI i) :: rest)) :=
  lv_icmp_eq hx hb d ht (fun h => kt ((nI_eq hi hj).mp h)) (fun h => kf (fun q => h ((nI_eq hi hj).mpr q)))
theorem xz_eq {i : Nat} {off : Int} {tgt : Nat} (hx : p.tables.exec = Jvm.exec) (hb : c.code = cc) (hi : i < 2 ^ 31) (d : decode cc pc = .ok (.ifCond .eq off, 3)) (ht : (pc : Int) + off = (tgt : Int))
    (kt : i = 0 → W p l e R s m args below meth c H locs cells slots Q (F0 m tgt ls rest)) (kf : 0 < i → W p l e R s m args below meth c H locs cells slots Q (F0 m (pc + 3) ls rest)) : W p l e R s m args below meth c H locs cells slots Q (F0 m pc ls (.int (nI i) :: rest)) :=
  lv_if_eq hx hb d ht (fun h => kt (by
    rcases Nat.eq_zero_or_pos i with q | q
    · exact q
    · exact absurd h (nI_ne0 q hi))) (fun h => kf (Nat.pos_of_ne_zero fun q => h (by rw [q, nI_0])))
end XA3
abbrev ZT : Type := Nat × Int64 × Int64
/-- the arrays hold the list -/
def wz (zs : List ZT) (o : Nat → Nat) (mt mw : Nat → Int64) : Prop := ∀ (j : Nat) (z : ZT), zs[j]? = some z → o j = z.1 ∧ mt j = z.2.1 ∧ mw j = z.2.2
theorem wz_drop {zs tl : List ZT} {k : Nat} {z : ZT} (h : zs.drop k = z :: tl) : k < zs.length ∧ zs[k]? = some z ∧ zs.drop (k + 1) = tl := by
  have h1 : k < zs.length := by
    rcases Nat.lt_or_ge k zs.length with q | q
    · exact q
    · rw [List.drop_eq_nil_of_le q] at h; cases h
  rw [List.drop_eq_getElem_cons h1] at h
  injection h with h2 h3
  exact ⟨h1, by rw [List.getElem?_eq_getElem h1, h2], h3⟩
theorem wz_nil {zs : List ZT} {k : Nat} (h : zs.drop k = []) : zs.length ≤ k := List.drop_eq_nil_iff.mp h
/-- the reference's cells -/
abbrev wm (y b1 b2 b3 b4 b5 b6 b7 b8 b9 b10 : Nat) (cI cJ cZ : ClassId) (th nD nR : Nat) (vs : Nat → Int64) (ac : Nat → Bool) (now : Int64) (o : Nat → Nat) (mt mw : Nat → Int64) (zn : Nat) (nv dl : Nat → Int64) (el : Nat) (rt rv : Nat → Int64) (mk : Nat → Bool) : va_W :=
  [(y, .inr (1, [.int (nI th), .int (nI nD), .int (nI nR), .ref b1, .ref b2, .long now, .ref b3, .ref b4, .ref b5, .int (nI zn), .ref b6, .ref b7, .int (nI el), .ref b8, .ref b9, .ref b10])), (b1, .inl (cJ, 512, .inr (.inl vs))), (b2, .inl (cZ, 512, .inl (fun j => bI (ac j)))), (b3, .inl (cI, 8192, .inl (fun j => nI (o j)))), (b4, .inl (cJ, 8192, .inr (.inl mt))), (b5, .inl (cJ, 8192, .inr (.inl mw))), (b6, .inl (cJ, 16, .inr (.inl nv))), (b7, .inl (cJ, 16, .inr (.inl dl))), (b8, .inl (cJ, 8208, .inr (.inl rt))), (b9, .inl (cJ, 8208, .inr (.inl rv))), (b10, .inl (cZ, 8208, .inl (fun j => bI (mk j))))]
/-- the reference's numbers -/
def wm_I (nD nR el : Nat) (zs : List ZT) : Prop := 1 ≤ nD ∧ nD ≤ 512 ∧ 1 ≤ nR ∧ nR ≤ 8192 ∧ zs.length ≤ nR ∧ el ≤ 16 ∧ ∀ z ∈ zs, z.1 < nD
/-- how many a driver has -/
def wc (d : Nat) : List ZT → Nat
  | [] => 0
  | z :: tl => (if z.1 = d then 1 else 0) + wc d tl
theorem wc_le (d : Nat) : ∀ zs : List ZT, wc d zs ≤ zs.length
  | [] => Nat.le_refl 0
  | z :: tl => by
    have h := wc_le d tl
    show (if z.1 = d then 1 else 0) + wc d tl ≤ tl.length + 1
    split <;> omega
def wpj (d : Nat) (t : Int64) : List ZT → Int64 → Int64
  | [], v => v
  | z :: tl, v => wpj d t tl (if z.1 = d ∧ z.2.1 ≤ t then z.2.2 else v)
def wnx : List ZT → Int64 → Int64
  | [], le => le
  | z :: tl, le => wnx tl (if le = -1 ∨ z.2.1 < le then z.2.1 else le)
/-- the place of a driver's q-th, from place k on with c of them seen -/
def wfi (d q : Nat) : List ZT → Nat → Nat → Option Nat
  | [], _, _ => none
  | z :: tl, k, c => if z.1 = d then (if c = q then some k else wfi d q tl (k + 1) (c + 1)) else wfi d q tl (k + 1) c
def oI : Option Nat → Int32
  | some k => nI k
  | none => -1
def wac (ac : Nat → Bool) (q : Nat) : Nat → Nat → Nat → Int32
  | 0, _, _ => -1
  | n + 1, d, c => if ac d = true then (if c = q then nI d else wac ac q n (d + 1) (c + 1)) else wac ac q n (d + 1) c
def wm_ri (dl : Nat → Int64) (el : Nat) : Prop := ∀ k, 1 ≤ k → k < el → dl (k - 1) < dl k
end
section
set_option maxHeartbeats 4000000 in
set_option maxRecDepth 100000 in
theorem m_thrown (l : Launch) (dC : Nat → ClassId) (dI : Nat → Nat → Nat) (y b1 b2 b3 b4 b5 b6 b7 b8 b9 b10 : Nat) (cI cJ cZ : ClassId) (th nD nR : Nat) (vs : Nat → Int64) (ac : Nat → Bool) (now : Int64) (o : Nat → Nat) (mt mw : Nat → Int64) (nv dl : Nat → Int64) (el : Nat) (rt rv : Nat → Int64) (mk : Nat → Bool) (zs : List ZT)  : Met l yX1_thrown wsX1_thrown ({ frames := 0, cells := 0, slots := 0, locals := 0 }) (va_Pc [.ref y] (fun U => va_P (dC, dI) vwCl (wm y b1 b2 b3 b4 b5 b6 b7 b8 b9 b10 cI cJ cZ th nD nR vs ac now o mt mw zs.length nv dl el rt rv mk) U.heap ∧ va_K (dC, dI) vwCl [(cI, .int), (cJ, .long), (cZ, .boolean)] U)) (vp_Si (fun v => v = nI th)) 0 0 (fun _ => False) := by
  refine Met.ofW (cc := cX1_thrown) (maxL := 1) (ret := (some .int)) (by decide) rfl ?_
  intro p e s m args below meth c s₁ B hml hv
  obtain ⟨rfl, hP, hK⟩ := hv
  have hx := B.exec
  have hb := B.bytes
  have hr := B.returns
  have hts := atoms_spec (ws := wsX1_thrown) B.pre
  have hown : s.vm.findClass RX1 = some m.cls := findClass_of_methodNamed B.named
  have hlocks := B.notSynchronized
  have hall := fun (w : Cond) (h : w ∈ allw) => hts w (List.mem_cons_of_mem _ h)
  have hl := lv_entry ([.ref y]) (n := 1) (Nat.le_of_ble_eq_true rfl)
  rw [lg_entry_eq]
  generalize (lg_sl ([.ref y]) ++ List.replicate (1 - (lg_sl ([.ref y])).length) Slot.unset).toArray = ls at hl ⊢
  have hl : lv_has ls 1 [(0, .ref y)] := hl
  refine lv_aload_n hx hb dX1_thrown_0 rfl (lv_at hl 0 rfl) ?_
  refine va_get (D := (dC, dI)) (ci := 1) (v := .int (nI th)) (C := RX1) (T := TX1) (N := 16) hx hb hall inX1 hown hK hP 0 rfl rfl 0 (by decide) (hall _ kw_323) (fun _ h9 => h9) rfl dX1_thrown_1 ?_
  exact W.iret (v := nI th) hx hb hr (fun t9 ht hW => ⟨nI th, rfl, rfl, ht⟩) (fun q hq => nomatch hq) dX1_thrown_4
set_option maxHeartbeats 4000000 in
set_option maxRecDepth 100000 in
theorem m_none0 (l : Launch) (dC : Nat → ClassId) (dI : Nat → Nat → Nat) (y b1 b2 b3 b4 b5 b6 b7 b8 b9 b10 : Nat) (cI cJ cZ : ClassId) (th nD nR : Nat) (vs : Nat → Int64) (ac : Nat → Bool) (now : Int64) (o : Nat → Nat) (mt mw : Nat → Int64) (nv dl : Nat → Int64) (el : Nat) (rt rv : Nat → Int64) (mk : Nat → Bool) (zs : List ZT) (hI : wm_I nD nR el zs) (hZ : wz zs o mt mw) (d : Nat) (hd : d < nD) : Met l yX1_none wsX1_none ({ frames := 0, cells := 0, slots := 0, locals := 0 }) (va_Pc [.ref y, .int (nI d)] (fun U => va_P (dC, dI) vwCl (wm y b1 b2 b3 b4 b5 b6 b7 b8 b9 b10 cI cJ cZ th nD nR vs ac now o mt mw zs.length nv dl el rt rv mk) U.heap ∧ va_K (dC, dI) vwCl [(cI, .int), (cJ, .long), (cZ, .boolean)] U)) (vp_Si (fun v => v = 0)) 0 0 (fun _ => False) := by
  refine Met.ofW (cc := cX1_none) (maxL := 2) (ret := (some .boolean)) (by decide) rfl ?_
  intro p e s m args below meth c s₁ B hml hv
  obtain ⟨rfl, hP, hK⟩ := hv
  have hx := B.exec
  have hb := B.bytes
  have hr := B.returns
  have hts := atoms_spec (ws := wsX1_none) B.pre
  have hown : s.vm.findClass RX1 = some m.cls := findClass_of_methodNamed B.named
  have hlocks := B.notSynchronized
  have hall := fun (w : Cond) (h : w ∈ allw) => hts w (List.mem_cons_of_mem _ h)
  have hl := lv_entry ([.ref y, .int (nI d)]) (n := 2) (Nat.le_of_ble_eq_true rfl)
  rw [lg_entry_eq]
  generalize (lg_sl ([.ref y, .int (nI d)]) ++ List.replicate (2 - (lg_sl ([.ref y, .int (nI d)])).length) Slot.unset).toArray = ls at hl ⊢
  have hl : lv_has ls 2 [(0, .ref y), (1, .int (nI d))] := hl
  obtain ⟨hnD1, hnD, hnR1, hnR, hzR, hel, how⟩ := hI
  refine lv_iload_n hx hb dX1_none_0 rfl (lv_at hl 1 rfl) ?_
  refine lv_if_lt (tgt := 12) hx hb dX1_none_1 (by decide) (fun c_1 => ?_) (fun c_1 => ?_)
  · exact absurd c_1 (nI_pos (by omega))
  · refine lv_iload_n hx hb dX1_none_4 rfl (lv_at hl 1 rfl) ?_
    refine lv_aload_n hx hb dX1_none_5 rfl (lv_at hl 0 rfl) ?_
    refine va_get (D := (dC, dI)) (ci := 1) (v := .int (nI nD)) (C := RX1) (T := TX1) (N := 16) hx hb hall inX1 hown hK hP 0 rfl rfl 1 (by decide) (hall _ kw_324) (fun _ h9 => h9) rfl dX1_none_6 ?_
    refine xc_lt (tgt := 16) hx hb (by omega) (by omega) dX1_none_9 (by decide) (fun c_2 => ?_) (fun c_2 => ?_)
    · refine lv_iconst (v := 0) hx hb dX1_none_16 (by decide) ?_
      exact W.zret (v := 0) (ty := .boolean) hx hb hr narrow_b0 (fun t9 ht hW => ⟨0, rfl, rfl, ht⟩) (fun q hq => nomatch hq) dX1_none_17
    · exact absurd c_2 (by omega)
set_option maxHeartbeats 4000000 in
set_option maxRecDepth 100000 in
theorem m_none1 (l : Launch) (dC : Nat → ClassId) (dI : Nat → Nat → Nat) (y b1 b2 b3 b4 b5 b6 b7 b8 b9 b10 : Nat) (cI cJ cZ : ClassId) (th nD nR : Nat) (vs : Nat → Int64) (ac : Nat → Bool) (now : Int64) (o : Nat → Nat) (mt mw : Nat → Int64) (nv dl : Nat → Int64) (el : Nat) (rt rv : Nat → Int64) (mk : Nat → Bool) (zs : List ZT) (i : Int32) (hbad : i < 0 ∨ nI nD ≤ i) : Met l yX1_none wsX1_none ({ frames := 0, cells := 0, slots := 0, locals := 0 }) (va_Pc [.ref y, .int i] (fun U => va_P (dC, dI) vwCl (wm y b1 b2 b3 b4 b5 b6 b7 b8 b9 b10 cI cJ cZ th nD nR vs ac now o mt mw zs.length nv dl el rt rv mk) U.heap ∧ va_K (dC, dI) vwCl [(cI, .int), (cJ, .long), (cZ, .boolean)] U)) (vp_Si (fun v => v = 1)) 0 0 (fun _ => False) := by
  refine Met.ofW (cc := cX1_none) (maxL := 2) (ret := (some .boolean)) (by decide) rfl ?_
  intro p e s m args below meth c s₁ B hml hv
  obtain ⟨rfl, hP, hK⟩ := hv
  have hx := B.exec
  have hb := B.bytes
  have hr := B.returns
  have hts := atoms_spec (ws := wsX1_none) B.pre
  have hown : s.vm.findClass RX1 = some m.cls := findClass_of_methodNamed B.named
  have hlocks := B.notSynchronized
  have hall := fun (w : Cond) (h : w ∈ allw) => hts w (List.mem_cons_of_mem _ h)
  have hl := lv_entry ([.ref y, .int i]) (n := 2) (Nat.le_of_ble_eq_true rfl)
  rw [lg_entry_eq]
  generalize (lg_sl ([.ref y, .int i]) ++ List.replicate (2 - (lg_sl ([.ref y, .int i])).length) Slot.unset).toArray = ls at hl ⊢
  have hl : lv_has ls 2 [(0, .ref y), (1, .int i)] := hl
  refine lv_iload_n hx hb dX1_none_0 rfl (lv_at hl 1 rfl) ?_
  refine lv_if_lt (tgt := 12) hx hb dX1_none_1 (by decide) (fun c_1 => ?_) (fun c_1 => ?_)
  · have c_A := c_1
    refine lv_iconst (v := 1) hx hb dX1_none_12 (by decide) ?_
    refine lv_goto (tgt := 17) hx hb dX1_none_13 (by decide) ?_
    exact W.zret (v := 1) (ty := .boolean) hx hb hr narrow_b1 (fun t9 ht hW => ⟨1, rfl, rfl, ht⟩) (fun q hq => nomatch hq) dX1_none_17
  · have c_A := c_1
    refine lv_iload_n hx hb dX1_none_4 rfl (lv_at hl 1 rfl) ?_
    refine lv_aload_n hx hb dX1_none_5 rfl (lv_at hl 0 rfl) ?_
    refine va_get (D := (dC, dI)) (ci := 1) (v := .int (nI nD)) (C := RX1) (T := TX1) (N := 16) hx hb hall inX1 hown hK hP 0 rfl rfl 1 (by decide) (hall _ kw_324) (fun _ h9 => h9) rfl dX1_none_6 ?_
    refine lv_icmp_lt (tgt := 16) hx hb dX1_none_9 (by decide) (fun c_2 => ?_) (fun c_2 => ?_)
    · exact absurd hbad (fun q => q.elim c_A (fun q => absurd c_2 (Int32.not_lt.mpr q)))
    · refine lv_iconst (v := 1) hx hb dX1_none_12 (by decide) ?_
      refine lv_goto (tgt := 17) hx hb dX1_none_13 (by decide) ?_
      exact W.zret (v := 1) (ty := .boolean) hx hb hr narrow_b1 (fun t9 ht hW => ⟨1, rfl, rfl, ht⟩) (fun q hq => nomatch hq) dX1_none_17
set_option maxHeartbeats 4000000 in
set_option maxRecDepth 100000 in
theorem m_drop (l : Launch) (dC : Nat → ClassId) (dI : Nat → Nat → Nat) (y b1 b2 b3 b4 b5 b6 b7 b8 b9 b10 : Nat) (cI cJ cZ : ClassId) (th nD nR : Nat) (vs : Nat → Int64) (ac : Nat → Bool) (now : Int64) (o : Nat → Nat) (mt mw : Nat → Int64) (nv dl : Nat → Int64) (el : Nat) (rt rv : Nat → Int64) (mk : Nat → Bool) (zs : List ZT) (sz : Nat)  : Met l yX1_drop wsX1_drop ({ frames := 0, cells := 0, slots := 0, locals := 0 }) (va_Pc [.ref y] (fun U => U.heap.size = sz ∧ va_P (dC, dI) vwCl (wm y b1 b2 b3 b4 b5 b6 b7 b8 b9 b10 cI cJ cZ th nD nR vs ac now o mt mw zs.length nv dl el rt rv mk) U.heap ∧ va_K (dC, dI) vwCl [(cI, .int), (cJ, .long), (cZ, .boolean)] U ∧ va_D (fun _ => True) (wm y b1 b2 b3 b4 b5 b6 b7 b8 b9 b10 cI cJ cZ th nD nR vs ac now o mt mw zs.length nv dl el rt rv mk))) (va_Qi (fun (v : Int32) (_ : Unit) => v = nI el) (fun _ t9 => va_P (dC, dI) vwCl (wm y b1 b2 b3 b4 b5 b6 b7 b8 b9 b10 cI cJ cZ 0 nD nR vs ac now o mt mw zs.length nv dl 0 rt rv mk) t9.heap ∧ va_K (dC, dI) vwCl [(cI, .int), (cJ, .long), (cZ, .boolean)] t9 ∧ va_D (va_A (wm y b1 b2 b3 b4 b5 b6 b7 b8 b9 b10 cI cJ cZ th nD nR vs ac now o mt mw zs.length nv dl el rt rv mk) sz) (wm y b1 b2 b3 b4 b5 b6 b7 b8 b9 b10 cI cJ cZ 0 nD nR vs ac now o mt mw zs.length nv dl 0 rt rv mk)) (va_A (wm y b1 b2 b3 b4 b5 b6 b7 b8 b9 b10 cI cJ cZ th nD nR vs ac now o mt mw zs.length nv dl el rt rv mk) sz)) 0 0 (va_A (wm y b1 b2 b3 b4 b5 b6 b7 b8 b9 b10 cI cJ cZ th nD nR vs ac now o mt mw zs.length nv dl el rt rv mk) sz) := by
  refine Met.ofW (cc := cX1_drop) (maxL := 2) (ret := (some .int)) (by decide) rfl ?_
  intro p e s m args below meth c s₁ B hml hv
  obtain ⟨rfl, hsz, hP, hK, hD0⟩ := hv
  subst hsz
  have hD := hD0.self (sz := s.heap.size)
  generalize hAe : va_A (wm y b1 b2 b3 b4 b5 b6 b7 b8 b9 b10 cI cJ cZ th nD nR vs ac now o mt mw zs.length nv dl el rt rv mk) s.heap.size = A at hD ⊢
  have hA : ∀ q : Nat, s.heap.size ≤ q → A q := fun q h => by rw [← hAe]; exact Or.inr h
  have hS : va_S A s.heap s.heap [] := va_S.rf
  have hx := B.exec
  have hb := B.bytes
  have hr := B.returns
  have hts := atoms_spec (ws := wsX1_drop) B.pre
  have hown : s.vm.findClass RX1 = some m.cls := findClass_of_methodNamed B.named
  have hlocks := B.notSynchronized
  have hall := fun (w : Cond) (h : w ∈ allw) => hts w (List.mem_cons_of_mem _ h)
  have hl := lv_entry ([.ref y]) (n := 2) (Nat.le_of_ble_eq_true rfl)
  rw [lg_entry_eq]
  generalize (lg_sl ([.ref y]) ++ List.replicate (2 - (lg_sl ([.ref y])).length) Slot.unset).toArray = ls at hl ⊢
  have hl : lv_has ls 2 [(0, .ref y)] := hl
  refine lv_aload_n hx hb dX1_drop_0 rfl (lv_at hl 0 rfl) ?_
  refine lv_iconst (v := 0) hx hb dX1_drop_1 (by decide) ?_
  refine tp_i (y := nI 0) nI_0.symm ?_
  refine va_put (D := (dC, dI)) (ci := 1) (v := .int (nI 0)) (ty := .int) (C := RX1) (T := TX1) (N := 16) hx hb hall inX1 tyX1 tyX1_ok nmX1 hown hK hP hD hS 0 rfl rfl 0 (by decide) (hall _ kw_323) (fun _ h9 => h9) rfl (by decide +kernel) rfl rfl (Nat.le_of_ble_eq_true rfl) dX1_drop_2 (fun H locs hP hD hS => ?_)
  have hP : va_P (dC, dI) vwCl [(y, .inr (1, [.int (nI 0), .int (nI nD), .int (nI nR), .ref b1, .ref b2, .long now, .ref b3, .ref b4, .ref b5, .int (nI zs.length), .ref b6, .ref b7, .int (nI el), .ref b8, .ref b9, .ref b10])), (b1, .inl (cJ, 512, .inr (.inl vs))), (b2, .inl (cZ, 512, .inl (fun j => bI (ac j)))), (b3, .inl (cI, 8192, .inl (fun j => nI (o j)))), (b4, .inl (cJ, 8192, .inr (.inl mt))), (b5, .inl (cJ, 8192, .inr (.inl mw))), (b6, .inl (cJ, 16, .inr (.inl nv))), (b7, .inl (cJ, 16, .inr (.inl dl))), (b8, .inl (cJ, 8208, .inr (.inl rt))), (b9, .inl (cJ, 8208, .inr (.inl rv))), (b10, .inl (cZ, 8208, .inl (fun j => bI (mk j))))] H := hP
  have hD : va_D A [(y, .inr (1, [.int (nI 0), .int (nI nD), .int (nI nR), .ref b1, .ref b2, .long now, .ref b3, .ref b4, .ref b5, .int (nI zs.length), .ref b6, .ref b7, .int (nI el), .ref b8, .ref b9, .ref b10])), (b1, .inl (cJ, 512, .inr (.inl vs))), (b2, .inl (cZ, 512, .inl (fun j => bI (ac j)))), (b3, .inl (cI, 8192, .inl (fun j => nI (o j)))), (b4, .inl (cJ, 8192, .inr (.inl mt))), (b5, .inl (cJ, 8192, .inr (.inl mw))), (b6, .inl (cJ, 16, .inr (.inl nv))), (b7, .inl (cJ, 16, .inr (.inl dl))), (b8, .inl (cJ, 8208, .inr (.inl rt))), (b9, .inl (cJ, 8208, .inr (.inl rv))), (b10, .inl (cZ, 8208, .inl (fun j => bI (mk j))))] := hD
  refine lv_aload_n hx hb dX1_drop_5 rfl (lv_at hl 0 rfl) ?_
  refine va_get (D := (dC, dI)) (ci := 1) (v := .int (nI el)) (C := RX1) (T := TX1) (N := 16) hx hb hall inX1 hown hK hP 0 rfl rfl 12 (by decide) (hall _ kw_335) (fun _ h9 => h9) rfl dX1_drop_6 ?_
  refine lv_istore_n (lv' := [(1, .int (nI el)), (0, .ref y)]) hx hb dX1_drop_9 rfl hl (by decide) rfl (fun ls hl => ?_)
  refine lv_aload_n hx hb dX1_drop_10 rfl (lv_at hl 1 rfl) ?_
  refine lv_iconst (v := 0) hx hb dX1_drop_11 (by decide) ?_
  refine tp_i (y := nI 0) nI_0.symm ?_
  refine va_put (D := (dC, dI)) (ci := 1) (v := .int (nI 0)) (ty := .int) (C := RX1) (T := TX1) (N := 16) hx hb hall inX1 tyX1 tyX1_ok nmX1 hown hK hP hD hS 0 rfl rfl 12 (by decide) (hall _ kw_335) (fun _ h9 => h9) rfl (by decide +kernel) rfl rfl (Nat.le_of_ble_eq_true rfl) dX1_drop_12 (fun H locs hP hD hS => ?_)
  have hP : va_P (dC, dI) vwCl [(y, .inr (1, [.int (nI 0), .int (nI nD), .int (nI nR), .ref b1, .ref b2, .long now, .ref b3, .ref b4, .ref b5, .int (nI zs.length), .ref b6, .ref b7, .int (nI 0), .ref b8, .ref b9, .ref b10])), (b1, .inl (cJ, 512, .inr (.inl vs))), (b2, .inl (cZ, 512, .inl (fun j => bI (ac j)))), (b3, .inl (cI, 8192, .inl (fun j => nI (o j)))), (b4, .inl (cJ, 8192, .inr (.inl mt))), (b5, .inl (cJ, 8192, .inr (.inl mw))), (b6, .inl (cJ, 16, .inr (.inl nv))), (b7, .inl (cJ, 16, .inr (.inl dl))), (b8, .inl (cJ, 8208, .inr (.inl rt))), (b9, .inl (cJ, 8208, .inr (.inl rv))), (b10, .inl (cZ, 8208, .inl (fun j => bI (mk j))))] H := hP
  have hD : va_D A [(y, .inr (1, [.int (nI 0), .int (nI nD), .int (nI nR), .ref b1, .ref b2, .long now, .ref b3, .ref b4, .ref b5, .int (nI zs.length), .ref b6, .ref b7, .int (nI 0), .ref b8, .ref b9, .ref b10])), (b1, .inl (cJ, 512, .inr (.inl vs))), (b2, .inl (cZ, 512, .inl (fun j => bI (ac j)))), (b3, .inl (cI, 8192, .inl (fun j => nI (o j)))), (b4, .inl (cJ, 8192, .inr (.inl mt))), (b5, .inl (cJ, 8192, .inr (.inl mw))), (b6, .inl (cJ, 16, .inr (.inl nv))), (b7, .inl (cJ, 16, .inr (.inl dl))), (b8, .inl (cJ, 8208, .inr (.inl rt))), (b9, .inl (cJ, 8208, .inr (.inl rv))), (b10, .inl (cZ, 8208, .inl (fun j => bI (mk j))))] := hD
  refine lv_iload_n hx hb dX1_drop_15 rfl (lv_at hl 0 rfl) ?_
  exact W.iret (v := nI el) hx hb hr (fun t9 ht hW => ⟨⟨nI el, (), rfl, rfl, by rw [ht]; exact hP, va_K.moved hW.alike hK, hD⟩, hS.F ht⟩) hS.2.2 dX1_drop_16
set_option maxHeartbeats 4000000 in
set_option maxRecDepth 100000 in
theorem m_now (l : Launch) (dC : Nat → ClassId) (dI : Nat → Nat → Nat) (y b1 b2 b3 b4 b5 b6 b7 b8 b9 b10 : Nat) (cI cJ cZ : ClassId) (th nD nR : Nat) (vs : Nat → Int64) (ac : Nat → Bool) (now : Int64) (o : Nat → Nat) (mt mw : Nat → Int64) (nv dl : Nat → Int64) (el : Nat) (rt rv : Nat → Int64) (mk : Nat → Bool) (zs : List ZT) (sz : Nat)  : Met l yX1_now wsX1_now ({ frames := 0, cells := 0, slots := 0, locals := 0 }) (va_Pc [.ref y] (fun U => U.heap.size = sz ∧ va_P (dC, dI) vwCl (wm y b1 b2 b3 b4 b5 b6 b7 b8 b9 b10 cI cJ cZ th nD nR vs ac now o mt mw zs.length nv dl el rt rv mk) U.heap ∧ va_K (dC, dI) vwCl [(cI, .int), (cJ, .long), (cZ, .boolean)] U ∧ va_D (fun _ => True) (wm y b1 b2 b3 b4 b5 b6 b7 b8 b9 b10 cI cJ cZ th nD nR vs ac now o mt mw zs.length nv dl el rt rv mk))) (va_Ql (fun (v : Int64) (_ : Unit) => v = now) (fun _ t9 => va_P (dC, dI) vwCl (wm y b1 b2 b3 b4 b5 b6 b7 b8 b9 b10 cI cJ cZ 0 nD nR vs ac now o mt mw zs.length nv dl el rt rv mk) t9.heap ∧ va_K (dC, dI) vwCl [(cI, .int), (cJ, .long), (cZ, .boolean)] t9 ∧ va_D (va_A (wm y b1 b2 b3 b4 b5 b6 b7 b8 b9 b10 cI cJ cZ th nD nR vs ac now o mt mw zs.length nv dl el rt rv mk) sz) (wm y b1 b2 b3 b4 b5 b6 b7 b8 b9 b10 cI cJ cZ 0 nD nR vs ac now o mt mw zs.length nv dl el rt rv mk)) (va_A (wm y b1 b2 b3 b4 b5 b6 b7 b8 b9 b10 cI cJ cZ th nD nR vs ac now o mt mw zs.length nv dl el rt rv mk) sz)) 0 0 (va_A (wm y b1 b2 b3 b4 b5 b6 b7 b8 b9 b10 cI cJ cZ th nD nR vs ac now o mt mw zs.length nv dl el rt rv mk) sz) := by
  refine Met.ofW (cc := cX1_now) (maxL := 1) (ret := (some .long)) (by decide) rfl ?_
  intro p e s m args below meth c s₁ B hml hv
  obtain ⟨rfl, hsz, hP, hK, hD0⟩ := hv
  subst hsz
  have hD := hD0.self (sz := s.heap.size)
  generalize hAe : va_A (wm y b1 b2 b3 b4 b5 b6 b7 b8 b9 b10 cI cJ cZ th nD nR vs ac now o mt mw zs.length nv dl el rt rv mk) s.heap.size = A at hD ⊢
  have hA : ∀ q : Nat, s.heap.size ≤ q → A q := fun q h => by rw [← hAe]; exact Or.inr h
  have hS : va_S A s.heap s.heap [] := va_S.rf
  have hx := B.exec
  have hb := B.bytes
  have hr := B.returns
  have hts := atoms_spec (ws := wsX1_now) B.pre
  have hown : s.vm.findClass RX1 = some m.cls := findClass_of_methodNamed B.named
  have hlocks := B.notSynchronized
  have hall := fun (w : Cond) (h : w ∈ allw) => hts w (List.mem_cons_of_mem _ h)
  have hl := lv_entry ([.ref y]) (n := 1) (Nat.le_of_ble_eq_true rfl)
  rw [lg_entry_eq]
  generalize (lg_sl ([.ref y]) ++ List.replicate (1 - (lg_sl ([.ref y])).length) Slot.unset).toArray = ls at hl ⊢
  have hl : lv_has ls 1 [(0, .ref y)] := hl
  refine lv_aload_n hx hb dX1_now_0 rfl (lv_at hl 0 rfl) ?_
  refine lv_iconst (v := 0) hx hb dX1_now_1 (by decide) ?_
  refine tp_i (y := nI 0) nI_0.symm ?_
  refine va_put (D := (dC, dI)) (ci := 1) (v := .int (nI 0)) (ty := .int) (C := RX1) (T := TX1) (N := 16) hx hb hall inX1 tyX1 tyX1_ok nmX1 hown hK hP hD hS 0 rfl rfl 0 (by decide) (hall _ kw_323) (fun _ h9 => h9) rfl (by decide +kernel) rfl rfl (Nat.le_of_ble_eq_true rfl) dX1_now_2 (fun H locs hP hD hS => ?_)
  have hP : va_P (dC, dI) vwCl [(y, .inr (1, [.int (nI 0), .int (nI nD), .int (nI nR), .ref b1, .ref b2, .long now, .ref b3, .ref b4, .ref b5, .int (nI zs.length), .ref b6, .ref b7, .int (nI el), .ref b8, .ref b9, .ref b10])), (b1, .inl (cJ, 512, .inr (.inl vs))), (b2, .inl (cZ, 512, .inl (fun j => bI (ac j)))), (b3, .inl (cI, 8192, .inl (fun j => nI (o j)))), (b4, .inl (cJ, 8192, .inr (.inl mt))), (b5, .inl (cJ, 8192, .inr (.inl mw))), (b6, .inl (cJ, 16, .inr (.inl nv))), (b7, .inl (cJ, 16, .inr (.inl dl))), (b8, .inl (cJ, 8208, .inr (.inl rt))), (b9, .inl (cJ, 8208, .inr (.inl rv))), (b10, .inl (cZ, 8208, .inl (fun j => bI (mk j))))] H := hP
  have hD : va_D A [(y, .inr (1, [.int (nI 0), .int (nI nD), .int (nI nR), .ref b1, .ref b2, .long now, .ref b3, .ref b4, .ref b5, .int (nI zs.length), .ref b6, .ref b7, .int (nI el), .ref b8, .ref b9, .ref b10])), (b1, .inl (cJ, 512, .inr (.inl vs))), (b2, .inl (cZ, 512, .inl (fun j => bI (ac j)))), (b3, .inl (cI, 8192, .inl (fun j => nI (o j)))), (b4, .inl (cJ, 8192, .inr (.inl mt))), (b5, .inl (cJ, 8192, .inr (.inl mw))), (b6, .inl (cJ, 16, .inr (.inl nv))), (b7, .inl (cJ, 16, .inr (.inl dl))), (b8, .inl (cJ, 8208, .inr (.inl rt))), (b9, .inl (cJ, 8208, .inr (.inl rv))), (b10, .inl (cZ, 8208, .inl (fun j => bI (mk j))))] := hD
  refine lv_aload_n hx hb dX1_now_5 rfl (lv_at hl 0 rfl) ?_
  refine va_get (D := (dC, dI)) (ci := 1) (v := .long now) (C := RX1) (T := TX1) (N := 16) hx hb hall inX1 hown hK hP 0 rfl rfl 5 (by decide) (hall _ kw_328) (fun _ h9 => h9) rfl dX1_now_6 ?_
  exact W.lret (v := now) hx hb hr (fun t9 ht hW => ⟨⟨now, (), rfl, rfl, by rw [ht]; exact hP, va_K.moved hW.alike hK, hD⟩, hS.F ht⟩) hS.2.2 dX1_now_9
set_option maxHeartbeats 4000000 in
set_option maxRecDepth 100000 in
theorem m_total (l : Launch) (dC : Nat → ClassId) (dI : Nat → Nat → Nat) (y b1 b2 b3 b4 b5 b6 b7 b8 b9 b10 : Nat) (cI cJ cZ : ClassId) (th nD nR : Nat) (vs : Nat → Int64) (ac : Nat → Bool) (now : Int64) (o : Nat → Nat) (mt mw : Nat → Int64) (nv dl : Nat → Int64) (el : Nat) (rt rv : Nat → Int64) (mk : Nat → Bool) (zs : List ZT) (sz : Nat)  : Met l yX1_total wsX1_total ({ frames := 0, cells := 0, slots := 0, locals := 0 }) (va_Pc [.ref y] (fun U => U.heap.size = sz ∧ va_P (dC, dI) vwCl (wm y b1 b2 b3 b4 b5 b6 b7 b8 b9 b10 cI cJ cZ th nD nR vs ac now o mt mw zs.length nv dl el rt rv mk) U.heap ∧ va_K (dC, dI) vwCl [(cI, .int), (cJ, .long), (cZ, .boolean)] U ∧ va_D (fun _ => True) (wm y b1 b2 b3 b4 b5 b6 b7 b8 b9 b10 cI cJ cZ th nD nR vs ac now o mt mw zs.length nv dl el rt rv mk))) (va_Qi (fun (v : Int32) (_ : Unit) => v = nI zs.length) (fun _ t9 => va_P (dC, dI) vwCl (wm y b1 b2 b3 b4 b5 b6 b7 b8 b9 b10 cI cJ cZ 0 nD nR vs ac now o mt mw zs.length nv dl el rt rv mk) t9.heap ∧ va_K (dC, dI) vwCl [(cI, .int), (cJ, .long), (cZ, .boolean)] t9 ∧ va_D (va_A (wm y b1 b2 b3 b4 b5 b6 b7 b8 b9 b10 cI cJ cZ th nD nR vs ac now o mt mw zs.length nv dl el rt rv mk) sz) (wm y b1 b2 b3 b4 b5 b6 b7 b8 b9 b10 cI cJ cZ 0 nD nR vs ac now o mt mw zs.length nv dl el rt rv mk)) (va_A (wm y b1 b2 b3 b4 b5 b6 b7 b8 b9 b10 cI cJ cZ th nD nR vs ac now o mt mw zs.length nv dl el rt rv mk) sz)) 0 0 (va_A (wm y b1 b2 b3 b4 b5 b6 b7 b8 b9 b10 cI cJ cZ th nD nR vs ac now o mt mw zs.length nv dl el rt rv mk) sz) := by
  refine Met.ofW (cc := cX1_total) (maxL := 1) (ret := (some .int)) (by decide) rfl ?_
  intro p e s m args below meth c s₁ B hml hv
  obtain ⟨rfl, hsz, hP, hK, hD0⟩ := hv
  subst hsz
  have hD := hD0.self (sz := s.heap.size)
  generalize hAe : va_A (wm y b1 b2 b3 b4 b5 b6 b7 b8 b9 b10 cI cJ cZ th nD nR vs ac now o mt mw zs.length nv dl el rt rv mk) s.heap.size = A at hD ⊢
  have hA : ∀ q : Nat, s.heap.size ≤ q → A q := fun q h => by rw [← hAe]; exact Or.inr h
  have hS : va_S A s.heap s.heap [] := va_S.rf
  have hx := B.exec
  have hb := B.bytes
  have hr := B.returns
  have hts := atoms_spec (ws := wsX1_total) B.pre
  have hown : s.vm.findClass RX1 = some m.cls := findClass_of_methodNamed B.named
  have hlocks := B.notSynchronized
  have hall := fun (w : Cond) (h : w ∈ allw) => hts w (List.mem_cons_of_mem _ h)
  have hl := lv_entry ([.ref y]) (n := 1) (Nat.le_of_ble_eq_true rfl)
  rw [lg_entry_eq]
  generalize (lg_sl ([.ref y]) ++ List.replicate (1 - (lg_sl ([.ref y])).length) Slot.unset).toArray = ls at hl ⊢
  have hl : lv_has ls 1 [(0, .ref y)] := hl
  refine lv_aload_n hx hb dX1_total_0 rfl (lv_at hl 0 rfl) ?_
  refine lv_iconst (v := 0) hx hb dX1_total_1 (by decide) ?_
  refine tp_i (y := nI 0) nI_0.symm ?_
  refine va_put (D := (dC, dI)) (ci := 1) (v := .int (nI 0)) (ty := .int) (C := RX1) (T := TX1) (N := 16) hx hb hall inX1 tyX1 tyX1_ok nmX1 hown hK hP hD hS 0 rfl rfl 0 (by decide) (hall _ kw_323) (fun _ h9 => h9) rfl (by decide +kernel) rfl rfl (Nat.le_of_ble_eq_true rfl) dX1_total_2 (fun H locs hP hD hS => ?_)
  have hP : va_P (dC, dI) vwCl [(y, .inr (1, [.int (nI 0), .int (nI nD), .int (nI nR), .ref b1, .ref b2, .long now, .ref b3, .ref b4, .ref b5, .int (nI zs.length), .ref b6, .ref b7, .int (nI el), .ref b8, .ref b9, .ref b10])), (b1, .inl (cJ, 512, .inr (.inl vs))), (b2, .inl (cZ, 512, .inl (fun j => bI (ac j)))), (b3, .inl (cI, 8192, .inl (fun j => nI (o j)))), (b4, .inl (cJ, 8192, .inr (.inl mt))), (b5, .inl (cJ, 8192, .inr (.inl mw))), (b6, .inl (cJ, 16, .inr (.inl nv))), (b7, .inl (cJ, 16, .inr (.inl dl))), (b8, .inl (cJ, 8208, .inr (.inl rt))), (b9, .inl (cJ, 8208, .inr (.inl rv))), (b10, .inl (cZ, 8208, .inl (fun j => bI (mk j))))] H := hP
  have hD : va_D A [(y, .inr (1, [.int (nI 0), .int (nI nD), .int (nI nR), .ref b1, .ref b2, .long now, .ref b3, .ref b4, .ref b5, .int (nI zs.length), .ref b6, .ref b7, .int (nI el), .ref b8, .ref b9, .ref b10])), (b1, .inl (cJ, 512, .inr (.inl vs))), (b2, .inl (cZ, 512, .inl (fun j => bI (ac j)))), (b3, .inl (cI, 8192, .inl (fun j => nI (o j)))), (b4, .inl (cJ, 8192, .inr (.inl mt))), (b5, .inl (cJ, 8192, .inr (.inl mw))), (b6, .inl (cJ, 16, .inr (.inl nv))), (b7, .inl (cJ, 16, .inr (.inl dl))), (b8, .inl (cJ, 8208, .inr (.inl rt))), (b9, .inl (cJ, 8208, .inr (.inl rv))), (b10, .inl (cZ, 8208, .inl (fun j => bI (mk j))))] := hD
  refine lv_aload_n hx hb dX1_total_5 rfl (lv_at hl 0 rfl) ?_
  refine va_get (D := (dC, dI)) (ci := 1) (v := .int (nI zs.length)) (C := RX1) (T := TX1) (N := 16) hx hb hall inX1 hown hK hP 0 rfl rfl 9 (by decide) (hall _ kw_332) (fun _ h9 => h9) rfl dX1_total_6 ?_
  exact W.iret (v := nI zs.length) hx hb hr (fun t9 ht hW => ⟨⟨nI zs.length, (), rfl, rfl, by rw [ht]; exact hP, va_K.moved hW.alike hK, hD⟩, hS.F ht⟩) hS.2.2 dX1_total_9
set_option maxHeartbeats 4000000 in
set_option maxRecDepth 100000 in
theorem m_element1 (l : Launch) (dC : Nat → ClassId) (dI : Nat → Nat → Nat) (y b1 b2 b3 b4 b5 b6 b7 b8 b9 b10 : Nat) (cI cJ cZ : ClassId) (th nD nR : Nat) (vs : Nat → Int64) (ac : Nat → Bool) (now : Int64) (o : Nat → Nat) (mt mw : Nat → Int64) (nv dl : Nat → Int64) (el : Nat) (rt rv : Nat → Int64) (mk : Nat → Bool) (zs : List ZT) (sz : Nat) (v0 t : Int64) (hbad : t < 0 ∨ 1152921504606846976 < t) : Met l yX1_element wsX1_element ({ frames := 0, cells := 0, slots := 0, locals := 0 }) (va_Pc [.ref y, .long v0, .long t] (fun U => U.heap.size = sz ∧ va_P (dC, dI) vwCl (wm y b1 b2 b3 b4 b5 b6 b7 b8 b9 b10 cI cJ cZ th nD nR vs ac now o mt mw zs.length nv dl el rt rv mk) U.heap ∧ va_K (dC, dI) vwCl [(cI, .int), (cJ, .long), (cZ, .boolean)] U ∧ va_D (fun _ => True) (wm y b1 b2 b3 b4 b5 b6 b7 b8 b9 b10 cI cJ cZ th nD nR vs ac now o mt mw zs.length nv dl el rt rv mk))) (va_Qv (fun _ : Unit => True) (fun _ t9 => va_P (dC, dI) vwCl (wm y b1 b2 b3 b4 b5 b6 b7 b8 b9 b10 cI cJ cZ 1 nD nR vs ac now o mt mw zs.length nv dl el rt rv mk) t9.heap ∧ va_K (dC, dI) vwCl [(cI, .int), (cJ, .long), (cZ, .boolean)] t9 ∧ va_D (va_A (wm y b1 b2 b3 b4 b5 b6 b7 b8 b9 b10 cI cJ cZ th nD nR vs ac now o mt mw zs.length nv dl el rt rv mk) sz) (wm y b1 b2 b3 b4 b5 b6 b7 b8 b9 b10 cI cJ cZ 1 nD nR vs ac now o mt mw zs.length nv dl el rt rv mk)) (va_A (wm y b1 b2 b3 b4 b5 b6 b7 b8 b9 b10 cI cJ cZ th nD nR vs ac now o mt mw zs.length nv dl el rt rv mk) sz)) 0 0 (va_A (wm y b1 b2 b3 b4 b5 b6 b7 b8 b9 b10 cI cJ cZ th nD nR vs ac now o mt mw zs.length nv dl el rt rv mk) sz) := by
  refine Met.ofW (cc := cX1_element) (maxL := 5) (ret := none) (by decide) rfl ?_
  intro p e s m args below meth c s₁ B hml hv
  obtain ⟨rfl, hsz, hP, hK, hD0⟩ := hv
  subst hsz
  have hD := hD0.self (sz := s.heap.size)
  generalize hAe : va_A (wm y b1 b2 b3 b4 b5 b6 b7 b8 b9 b10 cI cJ cZ th nD nR vs ac now o mt mw zs.length nv dl el rt rv mk) s.heap.size = A at hD ⊢
  have hA : ∀ q : Nat, s.heap.size ≤ q → A q := fun q h => by rw [← hAe]; exact Or.inr h
  have hS : va_S A s.heap s.heap [] := va_S.rf
  have hx := B.exec
  have hb := B.bytes
  have hr := B.returns
  have hts := atoms_spec (ws := wsX1_element) B.pre
  have hown : s.vm.findClass RX1 = some m.cls := findClass_of_methodNamed B.named
  have hlocks := B.notSynchronized
  have hall := fun (w : Cond) (h : w ∈ allw) => hts w (List.mem_cons_of_mem _ h)
  have hl := lv_entry ([.ref y, .long v0, .long t]) (n := 5) (Nat.le_of_ble_eq_true rfl)
  rw [lg_entry_eq]
  generalize (lg_sl ([.ref y, .long v0, .long t]) ++ List.replicate (5 - (lg_sl ([.ref y, .long v0, .long t])).length) Slot.unset).toArray = ls at hl ⊢
  have hl : lv_has ls 5 [(0, .ref y), (1, .long v0), (3, .long t)] := hl
  refine lv_aload_n hx hb dX1_element_0 rfl (lv_at hl 0 rfl) ?_
  refine lv_lload_n hx hb dX1_element_1 rfl (lv_at hl 2 rfl) ?_
  refine lv_lconst (v := 0) hx hb dX1_element_2 (by decide) ?_
  refine xl_lt (tgt := 15) hx hb dX1_element_3 dX1_element_4 (by decide) (fun c_1 => ?_) (fun c_1 => ?_)
  · have c_A := c_1
    refine lv_iconst (v := 1) hx hb dX1_element_15 (by decide) ?_
    refine tp_i (y := nI 1) (by decide) ?_
    refine lv_goto (tgt := 33) hx hb dX1_element_16 (by decide) ?_
    refine va_put (D := (dC, dI)) (ci := 1) (v := .int (nI 1)) (ty := .int) (C := RX1) (T := TX1) (N := 16) hx hb hall inX1 tyX1 tyX1_ok nmX1 hown hK hP hD hS 0 rfl rfl 0 (by decide) (hall _ kw_323) (fun _ h9 => h9) rfl (by decide +kernel) rfl rfl (Nat.le_of_ble_eq_true rfl) dX1_element_33 (fun H locs hP hD hS => ?_)
    have hP : va_P (dC, dI) vwCl [(y, .inr (1, [.int (nI 1), .int (nI nD), .int (nI nR), .ref b1, .ref b2, .long now, .ref b3, .ref b4, .ref b5, .int (nI zs.length), .ref b6, .ref b7, .int (nI el), .ref b8, .ref b9, .ref b10])), (b1, .inl (cJ, 512, .inr (.inl vs))), (b2, .inl (cZ, 512, .inl (fun j => bI (ac j)))), (b3, .inl (cI, 8192, .inl (fun j => nI (o j)))), (b4, .inl (cJ, 8192, .inr (.inl mt))), (b5, .inl (cJ, 8192, .inr (.inl mw))), (b6, .inl (cJ, 16, .inr (.inl nv))), (b7, .inl (cJ, 16, .inr (.inl dl))), (b8, .inl (cJ, 8208, .inr (.inl rt))), (b9, .inl (cJ, 8208, .inr (.inl rv))), (b10, .inl (cZ, 8208, .inl (fun j => bI (mk j))))] H := hP
    have hD : va_D A [(y, .inr (1, [.int (nI 1), .int (nI nD), .int (nI nR), .ref b1, .ref b2, .long now, .ref b3, .ref b4, .ref b5, .int (nI zs.length), .ref b6, .ref b7, .int (nI el), .ref b8, .ref b9, .ref b10])), (b1, .inl (cJ, 512, .inr (.inl vs))), (b2, .inl (cZ, 512, .inl (fun j => bI (ac j)))), (b3, .inl (cI, 8192, .inl (fun j => nI (o j)))), (b4, .inl (cJ, 8192, .inr (.inl mt))), (b5, .inl (cJ, 8192, .inr (.inl mw))), (b6, .inl (cJ, 16, .inr (.inl nv))), (b7, .inl (cJ, 16, .inr (.inl dl))), (b8, .inl (cJ, 8208, .inr (.inl rt))), (b9, .inl (cJ, 8208, .inr (.inl rv))), (b10, .inl (cZ, 8208, .inl (fun j => bI (mk j))))] := hD
    refine lv_aload_n hx hb dX1_element_36 rfl (lv_at hl 0 rfl) ?_
    refine va_get (D := (dC, dI)) (ci := 1) (v := .int (nI 1)) (C := RX1) (T := TX1) (N := 16) hx hb hall inX1 hown hK hP 0 rfl rfl 0 (by decide) (hall _ kw_323) (fun _ h9 => h9) rfl dX1_element_37 ?_
    refine xz_le (tgt := 44) hx hb (by omega) dX1_element_40 (by decide) (fun c_2 => ?_) (fun c_2 => ?_)
    · exact absurd c_2 (by omega)
    · exact W.vret hx hb hr (fun t9 ht hW => ⟨⟨(), rfl, trivial, by rw [ht]; exact hP, va_K.moved hW.alike hK, hD⟩, hS.F ht⟩) hS.2.2 dX1_element_43
  · have c_A := c_1
    refine lv_lload_n hx hb dX1_element_7 rfl (lv_at hl 2 rfl) ?_
    refine lv_ldc2 (v := 1152921504606846976) hx hb hown (hall _ kw_381) dX1_element_8 ?_
    refine xl_le (tgt := 19) hx hb dX1_element_11 dX1_element_12 (by decide) (fun c_3 => ?_) (fun c_3 => ?_)
    · exact absurd hbad (fun q => q.elim c_A (fun q => absurd q (Int64.not_lt.mpr c_3)))
    · refine lv_iconst (v := 1) hx hb dX1_element_15 (by decide) ?_
      refine tp_i (y := nI 1) (by decide) ?_
      refine lv_goto (tgt := 33) hx hb dX1_element_16 (by decide) ?_
      refine va_put (D := (dC, dI)) (ci := 1) (v := .int (nI 1)) (ty := .int) (C := RX1) (T := TX1) (N := 16) hx hb hall inX1 tyX1 tyX1_ok nmX1 hown hK hP hD hS 0 rfl rfl 0 (by decide) (hall _ kw_323) (fun _ h9 => h9) rfl (by decide +kernel) rfl rfl (Nat.le_of_ble_eq_true rfl) dX1_element_33 (fun H locs hP hD hS => ?_)
      have hP : va_P (dC, dI) vwCl [(y, .inr (1, [.int (nI 1), .int (nI nD), .int (nI nR), .ref b1, .ref b2, .long now, .ref b3, .ref b4, .ref b5, .int (nI zs.length), .ref b6, .ref b7, .int (nI el), .ref b8, .ref b9, .ref b10])), (b1, .inl (cJ, 512, .inr (.inl vs))), (b2, .inl (cZ, 512, .inl (fun j => bI (ac j)))), (b3, .inl (cI, 8192, .inl (fun j => nI (o j)))), (b4, .inl (cJ, 8192, .inr (.inl mt))), (b5, .inl (cJ, 8192, .inr (.inl mw))), (b6, .inl (cJ, 16, .inr (.inl nv))), (b7, .inl (cJ, 16, .inr (.inl dl))), (b8, .inl (cJ, 8208, .inr (.inl rt))), (b9, .inl (cJ, 8208, .inr (.inl rv))), (b10, .inl (cZ, 8208, .inl (fun j => bI (mk j))))] H := hP
      have hD : va_D A [(y, .inr (1, [.int (nI 1), .int (nI nD), .int (nI nR), .ref b1, .ref b2, .long now, .ref b3, .ref b4, .ref b5, .int (nI zs.length), .ref b6, .ref b7, .int (nI el), .ref b8, .ref b9, .ref b10])), (b1, .inl (cJ, 512, .inr (.inl vs))), (b2, .inl (cZ, 512, .inl (fun j => bI (ac j)))), (b3, .inl (cI, 8192, .inl (fun j => nI (o j)))), (b4, .inl (cJ, 8192, .inr (.inl mt))), (b5, .inl (cJ, 8192, .inr (.inl mw))), (b6, .inl (cJ, 16, .inr (.inl nv))), (b7, .inl (cJ, 16, .inr (.inl dl))), (b8, .inl (cJ, 8208, .inr (.inl rt))), (b9, .inl (cJ, 8208, .inr (.inl rv))), (b10, .inl (cZ, 8208, .inl (fun j => bI (mk j))))] := hD
      refine lv_aload_n hx hb dX1_element_36 rfl (lv_at hl 0 rfl) ?_
      refine va_get (D := (dC, dI)) (ci := 1) (v := .int (nI 1)) (C := RX1) (T := TX1) (N := 16) hx hb hall inX1 hown hK hP 0 rfl rfl 0 (by decide) (hall _ kw_323) (fun _ h9 => h9) rfl dX1_element_37 ?_
      refine xz_le (tgt := 44) hx hb (by omega) dX1_element_40 (by decide) (fun c_4 => ?_) (fun c_4 => ?_)
      · exact absurd c_4 (by omega)
      · exact W.vret hx hb hr (fun t9 ht hW => ⟨⟨(), rfl, trivial, by rw [ht]; exact hP, va_K.moved hW.alike hK, hD⟩, hS.F ht⟩) hS.2.2 dX1_element_43
set_option maxHeartbeats 4000000 in
set_option maxRecDepth 100000 in
theorem m_element2 (l : Launch) (dC : Nat → ClassId) (dI : Nat → Nat → Nat) (y b1 b2 b3 b4 b5 b6 b7 b8 b9 b10 : Nat) (cI cJ cZ : ClassId) (th nD nR : Nat) (vs : Nat → Int64) (ac : Nat → Bool) (now : Int64) (o : Nat → Nat) (mt mw : Nat → Int64) (nv dl : Nat → Int64) (el : Nat) (rt rv : Nat → Int64) (mk : Nat → Bool) (zs : List ZT) (sz : Nat) (v0 t : Int64) (h1 : ¬ t < 0) (h2 : ¬ 1152921504606846976 < t) (hfull : el = 16) : Met l yX1_element wsX1_element ({ frames := 0, cells := 0, slots := 0, locals := 0 }) (va_Pc [.ref y, .long v0, .long t] (fun U => U.heap.size = sz ∧ va_P (dC, dI) vwCl (wm y b1 b2 b3 b4 b5 b6 b7 b8 b9 b10 cI cJ cZ th nD nR vs ac now o mt mw zs.length nv dl el rt rv mk) U.heap ∧ va_K (dC, dI) vwCl [(cI, .int), (cJ, .long), (cZ, .boolean)] U ∧ va_D (fun _ => True) (wm y b1 b2 b3 b4 b5 b6 b7 b8 b9 b10 cI cJ cZ th nD nR vs ac now o mt mw zs.length nv dl el rt rv mk))) (va_Qv (fun _ : Unit => True) (fun _ t9 => va_P (dC, dI) vwCl (wm y b1 b2 b3 b4 b5 b6 b7 b8 b9 b10 cI cJ cZ 2 nD nR vs ac now o mt mw zs.length nv dl el rt rv mk) t9.heap ∧ va_K (dC, dI) vwCl [(cI, .int), (cJ, .long), (cZ, .boolean)] t9 ∧ va_D (va_A (wm y b1 b2 b3 b4 b5 b6 b7 b8 b9 b10 cI cJ cZ th nD nR vs ac now o mt mw zs.length nv dl el rt rv mk) sz) (wm y b1 b2 b3 b4 b5 b6 b7 b8 b9 b10 cI cJ cZ 2 nD nR vs ac now o mt mw zs.length nv dl el rt rv mk)) (va_A (wm y b1 b2 b3 b4 b5 b6 b7 b8 b9 b10 cI cJ cZ th nD nR vs ac now o mt mw zs.length nv dl el rt rv mk) sz)) 0 0 (va_A (wm y b1 b2 b3 b4 b5 b6 b7 b8 b9 b10 cI cJ cZ th nD nR vs ac now o mt mw zs.length nv dl el rt rv mk) sz) := by
  refine Met.ofW (cc := cX1_element) (maxL := 5) (ret := none) (by decide) rfl ?_
  intro p e s m args below meth c s₁ B hml hv
  obtain ⟨rfl, hsz, hP, hK, hD0⟩ := hv
  subst hsz
  have hD := hD0.self (sz := s.heap.size)
  generalize hAe : va_A (wm y b1 b2 b3 b4 b5 b6 b7 b8 b9 b10 cI cJ cZ th nD nR vs ac now o mt mw zs.length nv dl el rt rv mk) s.heap.size = A at hD ⊢
  have hA : ∀ q : Nat, s.heap.size ≤ q → A q := fun q h => by rw [← hAe]; exact Or.inr h
  have hS : va_S A s.heap s.heap [] := va_S.rf
  have hx := B.exec
  have hb := B.bytes
  have hr := B.returns
  have hts := atoms_spec (ws := wsX1_element) B.pre
  have hown : s.vm.findClass RX1 = some m.cls := findClass_of_methodNamed B.named
  have hlocks := B.notSynchronized
  have hall := fun (w : Cond) (h : w ∈ allw) => hts w (List.mem_cons_of_mem _ h)
  have hl := lv_entry ([.ref y, .long v0, .long t]) (n := 5) (Nat.le_of_ble_eq_true rfl)
  rw [lg_entry_eq]
  generalize (lg_sl ([.ref y, .long v0, .long t]) ++ List.replicate (5 - (lg_sl ([.ref y, .long v0, .long t])).length) Slot.unset).toArray = ls at hl ⊢
  have hl : lv_has ls 5 [(0, .ref y), (1, .long v0), (3, .long t)] := hl
  refine lv_aload_n hx hb dX1_element_0 rfl (lv_at hl 0 rfl) ?_
  refine lv_lload_n hx hb dX1_element_1 rfl (lv_at hl 2 rfl) ?_
  refine lv_lconst (v := 0) hx hb dX1_element_2 (by decide) ?_
  refine xl_lt (tgt := 15) hx hb dX1_element_3 dX1_element_4 (by decide) (fun c_1 => ?_) (fun c_1 => ?_)
  · exact absurd c_1 h1
  · refine lv_lload_n hx hb dX1_element_7 rfl (lv_at hl 2 rfl) ?_
    refine lv_ldc2 (v := 1152921504606846976) hx hb hown (hall _ kw_381) dX1_element_8 ?_
    refine xl_le (tgt := 19) hx hb dX1_element_11 dX1_element_12 (by decide) (fun c_2 => ?_) (fun c_2 => ?_)
    · refine lv_aload_n hx hb dX1_element_19 rfl (lv_at hl 0 rfl) ?_
      refine va_get (D := (dC, dI)) (ci := 1) (v := .int (nI el)) (C := RX1) (T := TX1) (N := 16) hx hb hall inX1 hown hK hP 0 rfl rfl 12 (by decide) (hall _ kw_335) (fun _ h9 => h9) rfl dX1_element_20 ?_
      refine lv_bipush (v := 16) hx hb dX1_element_23 (by decide) ?_
      refine tp_i (y := nI 16) (by decide) ?_
      refine xc_ne (tgt := 32) hx hb (by omega) (by omega) dX1_element_25 (by decide) (fun c_3 => ?_) (fun c_3 => ?_)
      · exact absurd c_3 (by omega)
      · refine lv_iconst (v := 2) hx hb dX1_element_28 (by decide) ?_
        refine tp_i (y := nI 2) (by decide) ?_
        refine lv_goto (tgt := 33) hx hb dX1_element_29 (by decide) ?_
        refine va_put (D := (dC, dI)) (ci := 1) (v := .int (nI 2)) (ty := .int) (C := RX1) (T := TX1) (N := 16) hx hb hall inX1 tyX1 tyX1_ok nmX1 hown hK hP hD hS 0 rfl rfl 0 (by decide) (hall _ kw_323) (fun _ h9 => h9) rfl (by decide +kernel) rfl rfl (Nat.le_of_ble_eq_true rfl) dX1_element_33 (fun H locs hP hD hS => ?_)
        have hP : va_P (dC, dI) vwCl [(y, .inr (1, [.int (nI 2), .int (nI nD), .int (nI nR), .ref b1, .ref b2, .long now, .ref b3, .ref b4, .ref b5, .int (nI zs.length), .ref b6, .ref b7, .int (nI el), .ref b8, .ref b9, .ref b10])), (b1, .inl (cJ, 512, .inr (.inl vs))), (b2, .inl (cZ, 512, .inl (fun j => bI (ac j)))), (b3, .inl (cI, 8192, .inl (fun j => nI (o j)))), (b4, .inl (cJ, 8192, .inr (.inl mt))), (b5, .inl (cJ, 8192, .inr (.inl mw))), (b6, .inl (cJ, 16, .inr (.inl nv))), (b7, .inl (cJ, 16, .inr (.inl dl))), (b8, .inl (cJ, 8208, .inr (.inl rt))), (b9, .inl (cJ, 8208, .inr (.inl rv))), (b10, .inl (cZ, 8208, .inl (fun j => bI (mk j))))] H := hP
        have hD : va_D A [(y, .inr (1, [.int (nI 2), .int (nI nD), .int (nI nR), .ref b1, .ref b2, .long now, .ref b3, .ref b4, .ref b5, .int (nI zs.length), .ref b6, .ref b7, .int (nI el), .ref b8, .ref b9, .ref b10])), (b1, .inl (cJ, 512, .inr (.inl vs))), (b2, .inl (cZ, 512, .inl (fun j => bI (ac j)))), (b3, .inl (cI, 8192, .inl (fun j => nI (o j)))), (b4, .inl (cJ, 8192, .inr (.inl mt))), (b5, .inl (cJ, 8192, .inr (.inl mw))), (b6, .inl (cJ, 16, .inr (.inl nv))), (b7, .inl (cJ, 16, .inr (.inl dl))), (b8, .inl (cJ, 8208, .inr (.inl rt))), (b9, .inl (cJ, 8208, .inr (.inl rv))), (b10, .inl (cZ, 8208, .inl (fun j => bI (mk j))))] := hD
        refine lv_aload_n hx hb dX1_element_36 rfl (lv_at hl 0 rfl) ?_
        refine va_get (D := (dC, dI)) (ci := 1) (v := .int (nI 2)) (C := RX1) (T := TX1) (N := 16) hx hb hall inX1 hown hK hP 0 rfl rfl 0 (by decide) (hall _ kw_323) (fun _ h9 => h9) rfl dX1_element_37 ?_
        refine xz_le (tgt := 44) hx hb (by omega) dX1_element_40 (by decide) (fun c_4 => ?_) (fun c_4 => ?_)
        · exact absurd c_4 (by omega)
        · exact W.vret hx hb hr (fun t9 ht hW => ⟨⟨(), rfl, trivial, by rw [ht]; exact hP, va_K.moved hW.alike hK, hD⟩, hS.F ht⟩) hS.2.2 dX1_element_43
    · exact absurd (Int64.not_le.mp c_2) h2
set_option maxHeartbeats 4000000 in
set_option maxRecDepth 100000 in
theorem m_element0 (l : Launch) (dC : Nat → ClassId) (dI : Nat → Nat → Nat) (y b1 b2 b3 b4 b5 b6 b7 b8 b9 b10 : Nat) (cI cJ cZ : ClassId) (th nD nR : Nat) (vs : Nat → Int64) (ac : Nat → Bool) (now : Int64) (o : Nat → Nat) (mt mw : Nat → Int64) (nv dl : Nat → Int64) (el : Nat) (rt rv : Nat → Int64) (mk : Nat → Bool) (zs : List ZT) (sz : Nat) (v0 t : Int64) (h1 : ¬ t < 0) (h2 : ¬ 1152921504606846976 < t) (h3 : el < 16) : Met l yX1_element wsX1_element ({ frames := 0, cells := 0, slots := 0, locals := 0 }) (va_Pc [.ref y, .long v0, .long t] (fun U => U.heap.size = sz ∧ va_P (dC, dI) vwCl (wm y b1 b2 b3 b4 b5 b6 b7 b8 b9 b10 cI cJ cZ th nD nR vs ac now o mt mw zs.length nv dl el rt rv mk) U.heap ∧ va_K (dC, dI) vwCl [(cI, .int), (cJ, .long), (cZ, .boolean)] U ∧ va_D (fun _ => True) (wm y b1 b2 b3 b4 b5 b6 b7 b8 b9 b10 cI cJ cZ th nD nR vs ac now o mt mw zs.length nv dl el rt rv mk))) (va_Qv (fun _ : Unit => True) (fun _ t9 => va_P (dC, dI) vwCl (wm y b1 b2 b3 b4 b5 b6 b7 b8 b9 b10 cI cJ cZ 0 nD nR vs ac now o mt mw zs.length (vp_updL nv el v0) (vp_updL dl el t) (el + 1) rt rv mk) t9.heap ∧ va_K (dC, dI) vwCl [(cI, .int), (cJ, .long), (cZ, .boolean)] t9 ∧ va_D (va_A (wm y b1 b2 b3 b4 b5 b6 b7 b8 b9 b10 cI cJ cZ th nD nR vs ac now o mt mw zs.length nv dl el rt rv mk) sz) (wm y b1 b2 b3 b4 b5 b6 b7 b8 b9 b10 cI cJ cZ 0 nD nR vs ac now o mt mw zs.length (vp_updL nv el v0) (vp_updL dl el t) (el + 1) rt rv mk)) (va_A (wm y b1 b2 b3 b4 b5 b6 b7 b8 b9 b10 cI cJ cZ th nD nR vs ac now o mt mw zs.length nv dl el rt rv mk) sz)) 0 0 (va_A (wm y b1 b2 b3 b4 b5 b6 b7 b8 b9 b10 cI cJ cZ th nD nR vs ac now o mt mw zs.length nv dl el rt rv mk) sz) := by
  refine Met.ofW (cc := cX1_element) (maxL := 5) (ret := none) (by decide) rfl ?_
  intro p e s m args below meth c s₁ B hml hv
  obtain ⟨rfl, hsz, hP, hK, hD0⟩ := hv
  subst hsz
  have hD := hD0.self (sz := s.heap.size)
  generalize hAe : va_A (wm y b1 b2 b3 b4 b5 b6 b7 b8 b9 b10 cI cJ cZ th nD nR vs ac now o mt mw zs.length nv dl el rt rv mk) s.heap.size = A at hD ⊢
  have hA : ∀ q : Nat, s.heap.size ≤ q → A q := fun q h => by rw [← hAe]; exact Or.inr h
  have hS : va_S A s.heap s.heap [] := va_S.rf
  have hx := B.exec
  have hb := B.bytes
  have hr := B.returns
  have hts := atoms_spec (ws := wsX1_element) B.pre
  have hown : s.vm.findClass RX1 = some m.cls := findClass_of_methodNamed B.named
  have hlocks := B.notSynchronized
  have hall := fun (w : Cond) (h : w ∈ allw) => hts w (List.mem_cons_of_mem _ h)
  have hl := lv_entry ([.ref y, .long v0, .long t]) (n := 5) (Nat.le_of_ble_eq_true rfl)
  rw [lg_entry_eq]
  generalize (lg_sl ([.ref y, .long v0, .long t]) ++ List.replicate (5 - (lg_sl ([.ref y, .long v0, .long t])).length) Slot.unset).toArray = ls at hl ⊢
  have hl : lv_has ls 5 [(0, .ref y), (1, .long v0), (3, .long t)] := hl
  refine lv_aload_n hx hb dX1_element_0 rfl (lv_at hl 0 rfl) ?_
  refine lv_lload_n hx hb dX1_element_1 rfl (lv_at hl 2 rfl) ?_
  refine lv_lconst (v := 0) hx hb dX1_element_2 (by decide) ?_
  refine xl_lt (tgt := 15) hx hb dX1_element_3 dX1_element_4 (by decide) (fun c_1 => ?_) (fun c_1 => ?_)
  · exact absurd c_1 h1
  · refine lv_lload_n hx hb dX1_element_7 rfl (lv_at hl 2 rfl) ?_
    refine lv_ldc2 (v := 1152921504606846976) hx hb hown (hall _ kw_381) dX1_element_8 ?_
    refine xl_le (tgt := 19) hx hb dX1_element_11 dX1_element_12 (by decide) (fun c_2 => ?_) (fun c_2 => ?_)
    · refine lv_aload_n hx hb dX1_element_19 rfl (lv_at hl 0 rfl) ?_
      refine va_get (D := (dC, dI)) (ci := 1) (v := .int (nI el)) (C := RX1) (T := TX1) (N := 16) hx hb hall inX1 hown hK hP 0 rfl rfl 12 (by decide) (hall _ kw_335) (fun _ h9 => h9) rfl dX1_element_20 ?_
      refine lv_bipush (v := 16) hx hb dX1_element_23 (by decide) ?_
      refine tp_i (y := nI 16) (by decide) ?_
      refine xc_ne (tgt := 32) hx hb (by omega) (by omega) dX1_element_25 (by decide) (fun c_3 => ?_) (fun c_3 => ?_)
      · refine lv_iconst (v := 0) hx hb dX1_element_32 (by decide) ?_
        refine tp_i (y := nI 0) nI_0.symm ?_
        refine va_put (D := (dC, dI)) (ci := 1) (v := .int (nI 0)) (ty := .int) (C := RX1) (T := TX1) (N := 16) hx hb hall inX1 tyX1 tyX1_ok nmX1 hown hK hP hD hS 0 rfl rfl 0 (by decide) (hall _ kw_323) (fun _ h9 => h9) rfl (by decide +kernel) rfl rfl (Nat.le_of_ble_eq_true rfl) dX1_element_33 (fun H locs hP hD hS => ?_)
        have hP : va_P (dC, dI) vwCl [(y, .inr (1, [.int (nI 0), .int (nI nD), .int (nI nR), .ref b1, .ref b2, .long now, .ref b3, .ref b4, .ref b5, .int (nI zs.length), .ref b6, .ref b7, .int (nI el), .ref b8, .ref b9, .ref b10])), (b1, .inl (cJ, 512, .inr (.inl vs))), (b2, .inl (cZ, 512, .inl (fun j => bI (ac j)))), (b3, .inl (cI, 8192, .inl (fun j => nI (o j)))), (b4, .inl (cJ, 8192, .inr (.inl mt))), (b5, .inl (cJ, 8192, .inr (.inl mw))), (b6, .inl (cJ, 16, .inr (.inl nv))), (b7, .inl (cJ, 16, .inr (.inl dl))), (b8, .inl (cJ, 8208, .inr (.inl rt))), (b9, .inl (cJ, 8208, .inr (.inl rv))), (b10, .inl (cZ, 8208, .inl (fun j => bI (mk j))))] H := hP
        have hD : va_D A [(y, .inr (1, [.int (nI 0), .int (nI nD), .int (nI nR), .ref b1, .ref b2, .long now, .ref b3, .ref b4, .ref b5, .int (nI zs.length), .ref b6, .ref b7, .int (nI el), .ref b8, .ref b9, .ref b10])), (b1, .inl (cJ, 512, .inr (.inl vs))), (b2, .inl (cZ, 512, .inl (fun j => bI (ac j)))), (b3, .inl (cI, 8192, .inl (fun j => nI (o j)))), (b4, .inl (cJ, 8192, .inr (.inl mt))), (b5, .inl (cJ, 8192, .inr (.inl mw))), (b6, .inl (cJ, 16, .inr (.inl nv))), (b7, .inl (cJ, 16, .inr (.inl dl))), (b8, .inl (cJ, 8208, .inr (.inl rt))), (b9, .inl (cJ, 8208, .inr (.inl rv))), (b10, .inl (cZ, 8208, .inl (fun j => bI (mk j))))] := hD
        refine lv_aload_n hx hb dX1_element_36 rfl (lv_at hl 0 rfl) ?_
        refine va_get (D := (dC, dI)) (ci := 1) (v := .int (nI 0)) (C := RX1) (T := TX1) (N := 16) hx hb hall inX1 hown hK hP 0 rfl rfl 0 (by decide) (hall _ kw_323) (fun _ h9 => h9) rfl dX1_element_37 ?_
        refine xz_le (tgt := 44) hx hb (by omega) dX1_element_40 (by decide) (fun c_4 => ?_) (fun c_4 => ?_)
        · refine lv_aload_n hx hb dX1_element_44 rfl (lv_at hl 0 rfl) ?_
          refine va_get (D := (dC, dI)) (ci := 1) (v := .ref b6) (C := RX1) (T := TX1) (N := 16) hx hb hall inX1 hown hK hP 0 rfl rfl 10 (by decide) (hall _ kw_333) (fun _ h9 => h9) rfl dX1_element_45 ?_
          refine lv_aload_n hx hb dX1_element_48 rfl (lv_at hl 0 rfl) ?_
          refine va_get (D := (dC, dI)) (ci := 1) (v := .int (nI el)) (C := RX1) (T := TX1) (N := 16) hx hb hall inX1 hown hK hP 0 rfl rfl 12 (by decide) (hall _ kw_335) (fun _ h9 => h9) rfl dX1_element_49 ?_
          refine lv_lload_n hx hb dX1_element_52 rfl (lv_at hl 1 rfl) ?_
          refine xa_last hx hb hK hP hD hS 6 1 rfl rfl (by omega) (by omega) dX1_element_53 (fun H locs hP hD hS => ?_)
          have hP : va_P (dC, dI) vwCl [(y, .inr (1, [.int (nI 0), .int (nI nD), .int (nI nR), .ref b1, .ref b2, .long now, .ref b3, .ref b4, .ref b5, .int (nI zs.length), .ref b6, .ref b7, .int (nI el), .ref b8, .ref b9, .ref b10])), (b1, .inl (cJ, 512, .inr (.inl vs))), (b2, .inl (cZ, 512, .inl (fun j => bI (ac j)))), (b3, .inl (cI, 8192, .inl (fun j => nI (o j)))), (b4, .inl (cJ, 8192, .inr (.inl mt))), (b5, .inl (cJ, 8192, .inr (.inl mw))), (b6, .inl (cJ, 16, .inr (.inl (vp_updL nv el v0)))), (b7, .inl (cJ, 16, .inr (.inl dl))), (b8, .inl (cJ, 8208, .inr (.inl rt))), (b9, .inl (cJ, 8208, .inr (.inl rv))), (b10, .inl (cZ, 8208, .inl (fun j => bI (mk j))))] H := hP
          have hD : va_D A [(y, .inr (1, [.int (nI 0), .int (nI nD), .int (nI nR), .ref b1, .ref b2, .long now, .ref b3, .ref b4, .ref b5, .int (nI zs.length), .ref b6, .ref b7, .int (nI el), .ref b8, .ref b9, .ref b10])), (b1, .inl (cJ, 512, .inr (.inl vs))), (b2, .inl (cZ, 512, .inl (fun j => bI (ac j)))), (b3, .inl (cI, 8192, .inl (fun j => nI (o j)))), (b4, .inl (cJ, 8192, .inr (.inl mt))), (b5, .inl (cJ, 8192, .inr (.inl mw))), (b6, .inl (cJ, 16, .inr (.inl (vp_updL nv el v0)))), (b7, .inl (cJ, 16, .inr (.inl dl))), (b8, .inl (cJ, 8208, .inr (.inl rt))), (b9, .inl (cJ, 8208, .inr (.inl rv))), (b10, .inl (cZ, 8208, .inl (fun j => bI (mk j))))] := hD
          refine lv_aload_n hx hb dX1_element_54 rfl (lv_at hl 0 rfl) ?_
          refine va_get (D := (dC, dI)) (ci := 1) (v := .ref b7) (C := RX1) (T := TX1) (N := 16) hx hb hall inX1 hown hK hP 0 rfl rfl 11 (by decide) (hall _ kw_334) (fun _ h9 => h9) rfl dX1_element_55 ?_
          refine lv_aload_n hx hb dX1_element_58 rfl (lv_at hl 0 rfl) ?_
          refine va_get (D := (dC, dI)) (ci := 1) (v := .int (nI el)) (C := RX1) (T := TX1) (N := 16) hx hb hall inX1 hown hK hP 0 rfl rfl 12 (by decide) (hall _ kw_335) (fun _ h9 => h9) rfl dX1_element_59 ?_
          refine lv_lload_n hx hb dX1_element_62 rfl (lv_at hl 2 rfl) ?_
          refine xa_last hx hb hK hP hD hS 7 1 rfl rfl (by omega) (by omega) dX1_element_63 (fun H locs hP hD hS => ?_)
          have hP : va_P (dC, dI) vwCl [(y, .inr (1, [.int (nI 0), .int (nI nD), .int (nI nR), .ref b1, .ref b2, .long now, .ref b3, .ref b4, .ref b5, .int (nI zs.length), .ref b6, .ref b7, .int (nI el), .ref b8, .ref b9, .ref b10])), (b1, .inl (cJ, 512, .inr (.inl vs))), (b2, .inl (cZ, 512, .inl (fun j => bI (ac j)))), (b3, .inl (cI, 8192, .inl (fun j => nI (o j)))), (b4, .inl (cJ, 8192, .inr (.inl mt))), (b5, .inl (cJ, 8192, .inr (.inl mw))), (b6, .inl (cJ, 16, .inr (.inl (vp_updL nv el v0)))), (b7, .inl (cJ, 16, .inr (.inl (vp_updL dl el t)))), (b8, .inl (cJ, 8208, .inr (.inl rt))), (b9, .inl (cJ, 8208, .inr (.inl rv))), (b10, .inl (cZ, 8208, .inl (fun j => bI (mk j))))] H := hP
          have hD : va_D A [(y, .inr (1, [.int (nI 0), .int (nI nD), .int (nI nR), .ref b1, .ref b2, .long now, .ref b3, .ref b4, .ref b5, .int (nI zs.length), .ref b6, .ref b7, .int (nI el), .ref b8, .ref b9, .ref b10])), (b1, .inl (cJ, 512, .inr (.inl vs))), (b2, .inl (cZ, 512, .inl (fun j => bI (ac j)))), (b3, .inl (cI, 8192, .inl (fun j => nI (o j)))), (b4, .inl (cJ, 8192, .inr (.inl mt))), (b5, .inl (cJ, 8192, .inr (.inl mw))), (b6, .inl (cJ, 16, .inr (.inl (vp_updL nv el v0)))), (b7, .inl (cJ, 16, .inr (.inl (vp_updL dl el t)))), (b8, .inl (cJ, 8208, .inr (.inl rt))), (b9, .inl (cJ, 8208, .inr (.inl rv))), (b10, .inl (cZ, 8208, .inl (fun j => bI (mk j))))] := hD
          refine lv_aload_n hx hb dX1_element_64 rfl (lv_at hl 0 rfl) ?_
          refine lv_dup hx hb dX1_element_65 rfl ?_
          refine va_get (D := (dC, dI)) (ci := 1) (v := .int (nI el)) (C := RX1) (T := TX1) (N := 16) hx hb hall inX1 hown hK hP 0 rfl rfl 12 (by decide) (hall _ kw_335) (fun _ h9 => h9) rfl dX1_element_66 ?_
          refine lv_iconst (v := 1) hx hb dX1_element_69 (by decide) ?_
          refine lv_iadd hx hb dX1_element_70 ?_
          refine tp_i (y := nI (el + 1)) (nI_1 el) ?_
          refine va_put (D := (dC, dI)) (ci := 1) (v := .int (nI (el + 1))) (ty := .int) (C := RX1) (T := TX1) (N := 16) hx hb hall inX1 tyX1 tyX1_ok nmX1 hown hK hP hD hS 0 rfl rfl 12 (by decide) (hall _ kw_335) (fun _ h9 => h9) rfl (by decide +kernel) rfl rfl (Nat.le_of_ble_eq_true rfl) dX1_element_71 (fun H locs hP hD hS => ?_)
          have hP : va_P (dC, dI) vwCl [(y, .inr (1, [.int (nI 0), .int (nI nD), .int (nI nR), .ref b1, .ref b2, .long now, .ref b3, .ref b4, .ref b5, .int (nI zs.length), .ref b6, .ref b7, .int (nI (el + 1)), .ref b8, .ref b9, .ref b10])), (b1, .inl (cJ, 512, .inr (.inl vs))), (b2, .inl (cZ, 512, .inl (fun j => bI (ac j)))), (b3, .inl (cI, 8192, .inl (fun j => nI (o j)))), (b4, .inl (cJ, 8192, .inr (.inl mt))), (b5, .inl (cJ, 8192, .inr (.inl mw))), (b6, .inl (cJ, 16, .inr (.inl (vp_updL nv el v0)))), (b7, .inl (cJ, 16, .inr (.inl (vp_updL dl el t)))), (b8, .inl (cJ, 8208, .inr (.inl rt))), (b9, .inl (cJ, 8208, .inr (.inl rv))), (b10, .inl (cZ, 8208, .inl (fun j => bI (mk j))))] H := hP
          have hD : va_D A [(y, .inr (1, [.int (nI 0), .int (nI nD), .int (nI nR), .ref b1, .ref b2, .long now, .ref b3, .ref b4, .ref b5, .int (nI zs.length), .ref b6, .ref b7, .int (nI (el + 1)), .ref b8, .ref b9, .ref b10])), (b1, .inl (cJ, 512, .inr (.inl vs))), (b2, .inl (cZ, 512, .inl (fun j => bI (ac j)))), (b3, .inl (cI, 8192, .inl (fun j => nI (o j)))), (b4, .inl (cJ, 8192, .inr (.inl mt))), (b5, .inl (cJ, 8192, .inr (.inl mw))), (b6, .inl (cJ, 16, .inr (.inl (vp_updL nv el v0)))), (b7, .inl (cJ, 16, .inr (.inl (vp_updL dl el t)))), (b8, .inl (cJ, 8208, .inr (.inl rt))), (b9, .inl (cJ, 8208, .inr (.inl rv))), (b10, .inl (cZ, 8208, .inl (fun j => bI (mk j))))] := hD
          exact W.vret hx hb hr (fun t9 ht hW => ⟨⟨(), rfl, trivial, by rw [ht]; exact hP, va_K.moved hW.alike hK, hD⟩, hS.F ht⟩) hS.2.2 dX1_element_74
        · exact absurd c_4 (by omega)
      · exact absurd c_3 (by omega)
    · exact absurd (Int64.not_le.mp c_2) h2
set_option maxHeartbeats 4000000 in
set_option maxRecDepth 100000 in
theorem m_value1 (l : Launch) (dC : Nat → ClassId) (dI : Nat → Nat → Nat) (y b1 b2 b3 b4 b5 b6 b7 b8 b9 b10 : Nat) (cI cJ cZ : ClassId) (th nD nR : Nat) (vs : Nat → Int64) (ac : Nat → Bool) (now : Int64) (o : Nat → Nat) (mt mw : Nat → Int64) (nv dl : Nat → Int64) (el : Nat) (rt rv : Nat → Int64) (mk : Nat → Bool) (zs : List ZT) (sz : Nat) (i : Int32) (hbad : i < 0 ∨ nI nD ≤ i) : Met l yX1_value wsX1_value ({ frames := 1, cells := 0, slots := 0, locals := 21 }) (va_Pc [.ref y, .int i] (fun U => U.heap.size = sz ∧ va_P (dC, dI) vwCl (wm y b1 b2 b3 b4 b5 b6 b7 b8 b9 b10 cI cJ cZ th nD nR vs ac now o mt mw zs.length nv dl el rt rv mk) U.heap ∧ va_K (dC, dI) vwCl [(cI, .int), (cJ, .long), (cZ, .boolean)] U ∧ va_D (fun _ => True) (wm y b1 b2 b3 b4 b5 b6 b7 b8 b9 b10 cI cJ cZ th nD nR vs ac now o mt mw zs.length nv dl el rt rv mk))) (va_Ql (fun (v : Int64) (_ : Unit) => True) (fun _ t9 => va_P (dC, dI) vwCl (wm y b1 b2 b3 b4 b5 b6 b7 b8 b9 b10 cI cJ cZ 1 nD nR vs ac now o mt mw zs.length nv dl el rt rv mk) t9.heap ∧ va_K (dC, dI) vwCl [(cI, .int), (cJ, .long), (cZ, .boolean)] t9 ∧ va_D (va_A (wm y b1 b2 b3 b4 b5 b6 b7 b8 b9 b10 cI cJ cZ th nD nR vs ac now o mt mw zs.length nv dl el rt rv mk) sz) (wm y b1 b2 b3 b4 b5 b6 b7 b8 b9 b10 cI cJ cZ 1 nD nR vs ac now o mt mw zs.length nv dl el rt rv mk)) (va_A (wm y b1 b2 b3 b4 b5 b6 b7 b8 b9 b10 cI cJ cZ th nD nR vs ac now o mt mw zs.length nv dl el rt rv mk) sz)) 0 0 (va_A (wm y b1 b2 b3 b4 b5 b6 b7 b8 b9 b10 cI cJ cZ th nD nR vs ac now o mt mw zs.length nv dl el rt rv mk) sz) := by
  refine Met.ofW (cc := cX1_value) (maxL := 2) (ret := (some .long)) (by decide) rfl ?_
  intro p e s m args below meth c s₁ B hml hv
  obtain ⟨rfl, hsz, hP, hK, hD0⟩ := hv
  subst hsz
  have hD := hD0.self (sz := s.heap.size)
  generalize hAe : va_A (wm y b1 b2 b3 b4 b5 b6 b7 b8 b9 b10 cI cJ cZ th nD nR vs ac now o mt mw zs.length nv dl el rt rv mk) s.heap.size = A at hD ⊢
  have hA : ∀ q : Nat, s.heap.size ≤ q → A q := fun q h => by rw [← hAe]; exact Or.inr h
  have hS : va_S A s.heap s.heap [] := va_S.rf
  have hx := B.exec
  have hb := B.bytes
  have hr := B.returns
  have hts := atoms_spec (ws := wsX1_value) B.pre
  have hown : s.vm.findClass RX1 = some m.cls := findClass_of_methodNamed B.named
  have hlocks := B.notSynchronized
  have hall := fun (w : Cond) (h : w ∈ allw) => hts w (List.mem_cons_of_mem _ h)
  have hl := lv_entry ([.ref y, .int i]) (n := 2) (Nat.le_of_ble_eq_true rfl)
  rw [lg_entry_eq]
  generalize (lg_sl ([.ref y, .int i]) ++ List.replicate (2 - (lg_sl ([.ref y, .int i])).length) Slot.unset).toArray = ls at hl ⊢
  have hl : lv_has ls 2 [(0, .ref y), (1, .int i)] := hl
  refine lv_aload_n hx hb dX1_value_0 rfl (lv_at hl 0 rfl) ?_
  refine lv_aload_n hx hb dX1_value_1 rfl (lv_at hl 0 rfl) ?_
  refine lv_iload_n hx hb dX1_value_2 rfl (lv_at hl 1 rfl) ?_
  refine vp_callSi (W.runV (As := [.int i]) (rest := [.ref y]) ⟨hx, hb, hml, hown, hall⟩ (m_none1 l dC dI y b1 b2 b3 b4 b5 b6 b7 b8 b9 b10 cI cJ cZ th nD nR vs ac now o mt mw nv dl el rt rv mk zs i hbad) (cwV 1 hall gX1_60 rfl rfl rfl (by decide +kernel) ⟨Nat.le_of_ble_eq_true rfl, Nat.le_of_ble_eq_true rfl⟩) ⟨xr_blind, va_recv hK hP (ci := 1) (q0 := 0) rfl rfl, fun U hU hW => ⟨rfl, by rw [hU]; exact hP, va_K.moved hW.alike hK⟩⟩ rfl rfl hl.1 rfl (lv_room (Nat.le_of_ble_eq_true rfl)) dX1_value_3 ⟨by first | exact Nat.zero_le _ | omega, by first | exact Nat.zero_le _ | omega⟩) (fun v_1 hv_2 => ?_)
  subst hv_2
  refine lv_if_eq (tgt := 13) hx hb dX1_value_6 (by decide) (fun c_3 => ?_) (fun c_3 => ?_)
  · exact absurd c_3 (by decide)
  · refine lv_iconst (v := 1) hx hb dX1_value_9 (by decide) ?_
    refine tp_i (y := nI 1) (by decide) ?_
    refine lv_goto (tgt := 14) hx hb dX1_value_10 (by decide) ?_
    refine va_put (D := (dC, dI)) (ci := 1) (v := .int (nI 1)) (ty := .int) (C := RX1) (T := TX1) (N := 16) hx hb hall inX1 tyX1 tyX1_ok nmX1 hown hK hP hD hS 0 rfl rfl 0 (by decide) (hall _ kw_323) (fun _ h9 => h9) rfl (by decide +kernel) rfl rfl (Nat.le_of_ble_eq_true rfl) dX1_value_14 (fun H locs hP hD hS => ?_)
    have hP : va_P (dC, dI) vwCl [(y, .inr (1, [.int (nI 1), .int (nI nD), .int (nI nR), .ref b1, .ref b2, .long now, .ref b3, .ref b4, .ref b5, .int (nI zs.length), .ref b6, .ref b7, .int (nI el), .ref b8, .ref b9, .ref b10])), (b1, .inl (cJ, 512, .inr (.inl vs))), (b2, .inl (cZ, 512, .inl (fun j => bI (ac j)))), (b3, .inl (cI, 8192, .inl (fun j => nI (o j)))), (b4, .inl (cJ, 8192, .inr (.inl mt))), (b5, .inl (cJ, 8192, .inr (.inl mw))), (b6, .inl (cJ, 16, .inr (.inl nv))), (b7, .inl (cJ, 16, .inr (.inl dl))), (b8, .inl (cJ, 8208, .inr (.inl rt))), (b9, .inl (cJ, 8208, .inr (.inl rv))), (b10, .inl (cZ, 8208, .inl (fun j => bI (mk j))))] H := hP
    have hD : va_D A [(y, .inr (1, [.int (nI 1), .int (nI nD), .int (nI nR), .ref b1, .ref b2, .long now, .ref b3, .ref b4, .ref b5, .int (nI zs.length), .ref b6, .ref b7, .int (nI el), .ref b8, .ref b9, .ref b10])), (b1, .inl (cJ, 512, .inr (.inl vs))), (b2, .inl (cZ, 512, .inl (fun j => bI (ac j)))), (b3, .inl (cI, 8192, .inl (fun j => nI (o j)))), (b4, .inl (cJ, 8192, .inr (.inl mt))), (b5, .inl (cJ, 8192, .inr (.inl mw))), (b6, .inl (cJ, 16, .inr (.inl nv))), (b7, .inl (cJ, 16, .inr (.inl dl))), (b8, .inl (cJ, 8208, .inr (.inl rt))), (b9, .inl (cJ, 8208, .inr (.inl rv))), (b10, .inl (cZ, 8208, .inl (fun j => bI (mk j))))] := hD
    refine lv_aload_n hx hb dX1_value_17 rfl (lv_at hl 0 rfl) ?_
    refine va_get (D := (dC, dI)) (ci := 1) (v := .int (nI 1)) (C := RX1) (T := TX1) (N := 16) hx hb hall inX1 hown hK hP 0 rfl rfl 0 (by decide) (hall _ kw_323) (fun _ h9 => h9) rfl dX1_value_18 ?_
    refine xz_le (tgt := 28) hx hb (by omega) dX1_value_21 (by decide) (fun c_4 => ?_) (fun c_4 => ?_)
    · exact absurd c_4 (by omega)
    · refine lv_lconst (v := 0) hx hb dX1_value_24 (by decide) ?_
      refine lv_goto (tgt := 34) hx hb dX1_value_25 (by decide) ?_
      exact W.lret (v := 0) hx hb hr (fun t9 ht hW => ⟨⟨0, (), rfl, trivial, by rw [ht]; exact hP, va_K.moved hW.alike hK, hD⟩, hS.F ht⟩) hS.2.2 dX1_value_34
set_option maxHeartbeats 4000000 in
set_option maxRecDepth 100000 in
theorem m_value0 (l : Launch) (dC : Nat → ClassId) (dI : Nat → Nat → Nat) (y b1 b2 b3 b4 b5 b6 b7 b8 b9 b10 : Nat) (cI cJ cZ : ClassId) (th nD nR : Nat) (vs : Nat → Int64) (ac : Nat → Bool) (now : Int64) (o : Nat → Nat) (mt mw : Nat → Int64) (nv dl : Nat → Int64) (el : Nat) (rt rv : Nat → Int64) (mk : Nat → Bool) (zs : List ZT) (sz : Nat) (hI : wm_I nD nR el zs) (hZ : wz zs o mt mw) (d : Nat) (hd : d < nD) : Met l yX1_value wsX1_value ({ frames := 1, cells := 0, slots := 0, locals := 21 }) (va_Pc [.ref y, .int (nI d)] (fun U => U.heap.size = sz ∧ va_P (dC, dI) vwCl (wm y b1 b2 b3 b4 b5 b6 b7 b8 b9 b10 cI cJ cZ th nD nR vs ac now o mt mw zs.length nv dl el rt rv mk) U.heap ∧ va_K (dC, dI) vwCl [(cI, .int), (cJ, .long), (cZ, .boolean)] U ∧ va_D (fun _ => True) (wm y b1 b2 b3 b4 b5 b6 b7 b8 b9 b10 cI cJ cZ th nD nR vs ac now o mt mw zs.length nv dl el rt rv mk))) (va_Ql (fun (v : Int64) (_ : Unit) => v = vs d) (fun _ t9 => va_P (dC, dI) vwCl (wm y b1 b2 b3 b4 b5 b6 b7 b8 b9 b10 cI cJ cZ 0 nD nR vs ac now o mt mw zs.length nv dl el rt rv mk) t9.heap ∧ va_K (dC, dI) vwCl [(cI, .int), (cJ, .long), (cZ, .boolean)] t9 ∧ va_D (va_A (wm y b1 b2 b3 b4 b5 b6 b7 b8 b9 b10 cI cJ cZ th nD nR vs ac now o mt mw zs.length nv dl el rt rv mk) sz) (wm y b1 b2 b3 b4 b5 b6 b7 b8 b9 b10 cI cJ cZ 0 nD nR vs ac now o mt mw zs.length nv dl el rt rv mk)) (va_A (wm y b1 b2 b3 b4 b5 b6 b7 b8 b9 b10 cI cJ cZ th nD nR vs ac now o mt mw zs.length nv dl el rt rv mk) sz)) 0 0 (va_A (wm y b1 b2 b3 b4 b5 b6 b7 b8 b9 b10 cI cJ cZ th nD nR vs ac now o mt mw zs.length nv dl el rt rv mk) sz) := by
  refine Met.ofW (cc := cX1_value) (maxL := 2) (ret := (some .long)) (by decide) rfl ?_
  intro p e s m args below meth c s₁ B hml hv
  obtain ⟨rfl, hsz, hP, hK, hD0⟩ := hv
  subst hsz
  have hD := hD0.self (sz := s.heap.size)
  generalize hAe : va_A (wm y b1 b2 b3 b4 b5 b6 b7 b8 b9 b10 cI cJ cZ th nD nR vs ac now o mt mw zs.length nv dl el rt rv mk) s.heap.size = A at hD ⊢
  have hA : ∀ q : Nat, s.heap.size ≤ q → A q := fun q h => by rw [← hAe]; exact Or.inr h
  have hS : va_S A s.heap s.heap [] := va_S.rf
  have hx := B.exec
  have hb := B.bytes
  have hr := B.returns
  have hts := atoms_spec (ws := wsX1_value) B.pre
  have hown : s.vm.findClass RX1 = some m.cls := findClass_of_methodNamed B.named
  have hlocks := B.notSynchronized
  have hall := fun (w : Cond) (h : w ∈ allw) => hts w (List.mem_cons_of_mem _ h)
  have hl := lv_entry ([.ref y, .int (nI d)]) (n := 2) (Nat.le_of_ble_eq_true rfl)
  rw [lg_entry_eq]
  generalize (lg_sl ([.ref y, .int (nI d)]) ++ List.replicate (2 - (lg_sl ([.ref y, .int (nI d)])).length) Slot.unset).toArray = ls at hl ⊢
  have hl : lv_has ls 2 [(0, .ref y), (1, .int (nI d))] := hl
  have hI0 := hI
  obtain ⟨hnD1, hnD, hnR1, hnR, hzR, hel, how⟩ := hI
  refine lv_aload_n hx hb dX1_value_0 rfl (lv_at hl 0 rfl) ?_
  refine lv_aload_n hx hb dX1_value_1 rfl (lv_at hl 0 rfl) ?_
  refine lv_iload_n hx hb dX1_value_2 rfl (lv_at hl 1 rfl) ?_
  refine vp_callSi (W.runV (As := [.int (nI d)]) (rest := [.ref y]) ⟨hx, hb, hml, hown, hall⟩ (m_none0 l dC dI y b1 b2 b3 b4 b5 b6 b7 b8 b9 b10 cI cJ cZ th nD nR vs ac now o mt mw nv dl el rt rv mk zs hI0 hZ d hd) (cwV 1 hall gX1_60 rfl rfl rfl (by decide +kernel) ⟨Nat.le_of_ble_eq_true rfl, Nat.le_of_ble_eq_true rfl⟩) ⟨xr_blind, va_recv hK hP (ci := 1) (q0 := 0) rfl rfl, fun U hU hW => ⟨rfl, by rw [hU]; exact hP, va_K.moved hW.alike hK⟩⟩ rfl rfl hl.1 rfl (lv_room (Nat.le_of_ble_eq_true rfl)) dX1_value_3 ⟨by first | exact Nat.zero_le _ | omega, by first | exact Nat.zero_le _ | omega⟩) (fun v_1 hv_2 => ?_)
  subst hv_2
  refine lv_if_eq (tgt := 13) hx hb dX1_value_6 (by decide) (fun c_3 => ?_) (fun c_3 => ?_)
  · refine lv_iconst (v := 0) hx hb dX1_value_13 (by decide) ?_
    refine tp_i (y := nI 0) nI_0.symm ?_
    refine va_put (D := (dC, dI)) (ci := 1) (v := .int (nI 0)) (ty := .int) (C := RX1) (T := TX1) (N := 16) hx hb hall inX1 tyX1 tyX1_ok nmX1 hown hK hP hD hS 0 rfl rfl 0 (by decide) (hall _ kw_323) (fun _ h9 => h9) rfl (by decide +kernel) rfl rfl (Nat.le_of_ble_eq_true rfl) dX1_value_14 (fun H locs hP hD hS => ?_)
    have hP : va_P (dC, dI) vwCl [(y, .inr (1, [.int (nI 0), .int (nI nD), .int (nI nR), .ref b1, .ref b2, .long now, .ref b3, .ref b4, .ref b5, .int (nI zs.length), .ref b6, .ref b7, .int (nI el), .ref b8, .ref b9, .ref b10])), (b1, .inl (cJ, 512, .inr (.inl vs))), (b2, .inl (cZ, 512, .inl (fun j => bI (ac j)))), (b3, .inl (cI, 8192, .inl (fun j => nI (o j)))), (b4, .inl (cJ, 8192, .inr (.inl mt))), (b5, .inl (cJ, 8192, .inr (.inl mw))), (b6, .inl (cJ, 16, .inr (.inl nv))), (b7, .inl (cJ, 16, .inr (.inl dl))), (b8, .inl (cJ, 8208, .inr (.inl rt))), (b9, .inl (cJ, 8208, .inr (.inl rv))), (b10, .inl (cZ, 8208, .inl (fun j => bI (mk j))))] H := hP
    have hD : va_D A [(y, .inr (1, [.int (nI 0), .int (nI nD), .int (nI nR), .ref b1, .ref b2, .long now, .ref b3, .ref b4, .ref b5, .int (nI zs.length), .ref b6, .ref b7, .int (nI el), .ref b8, .ref b9, .ref b10])), (b1, .inl (cJ, 512, .inr (.inl vs))), (b2, .inl (cZ, 512, .inl (fun j => bI (ac j)))), (b3, .inl (cI, 8192, .inl (fun j => nI (o j)))), (b4, .inl (cJ, 8192, .inr (.inl mt))), (b5, .inl (cJ, 8192, .inr (.inl mw))), (b6, .inl (cJ, 16, .inr (.inl nv))), (b7, .inl (cJ, 16, .inr (.inl dl))), (b8, .inl (cJ, 8208, .inr (.inl rt))), (b9, .inl (cJ, 8208, .inr (.inl rv))), (b10, .inl (cZ, 8208, .inl (fun j => bI (mk j))))] := hD
    refine lv_aload_n hx hb dX1_value_17 rfl (lv_at hl 0 rfl) ?_
    refine va_get (D := (dC, dI)) (ci := 1) (v := .int (nI 0)) (C := RX1) (T := TX1) (N := 16) hx hb hall inX1 hown hK hP 0 rfl rfl 0 (by decide) (hall _ kw_323) (fun _ h9 => h9) rfl dX1_value_18 ?_
    refine xz_le (tgt := 28) hx hb (by omega) dX1_value_21 (by decide) (fun c_4 => ?_) (fun c_4 => ?_)
    · refine lv_aload_n hx hb dX1_value_28 rfl (lv_at hl 0 rfl) ?_
      refine va_get (D := (dC, dI)) (ci := 1) (v := .ref b1) (C := RX1) (T := TX1) (N := 16) hx hb hall inX1 hown hK hP 0 rfl rfl 3 (by decide) (hall _ kw_326) (fun _ h9 => h9) rfl dX1_value_29 ?_
      refine lv_iload_n hx hb dX1_value_32 rfl (lv_at hl 1 rfl) ?_
      refine xa_lald hx hb hK hP 1 1 rfl rfl (by omega) (by omega) dX1_value_33 ?_
      exact W.lret (v := vs d) hx hb hr (fun t9 ht hW => ⟨⟨vs d, (), rfl, rfl, by rw [ht]; exact hP, va_K.moved hW.alike hK, hD⟩, hS.F ht⟩) hS.2.2 dX1_value_34
    · exact absurd c_4 (by omega)
  · exact absurd rfl c_3
set_option maxHeartbeats 4000000 in
set_option maxRecDepth 100000 in
theorem m_rises (l : Launch) (dC : Nat → ClassId) (dI : Nat → Nat → Nat) (y b1 b2 b3 b4 b5 b6 b7 b8 b9 b10 : Nat) (cI cJ cZ : ClassId) (th nD nR : Nat) (vs : Nat → Int64) (ac : Nat → Bool) (now : Int64) (o : Nat → Nat) (mt mw : Nat → Int64) (nv dl : Nat → Int64) (el : Nat) (rt rv : Nat → Int64) (mk : Nat → Bool) (zs : List ZT) (hel : el ≤ 16) : Met l yX1_rises wsX1_rises ({ frames := 0, cells := 0, slots := 0, locals := 0 }) (va_Pc [.ref y] (fun U => va_P (dC, dI) vwCl (wm y b1 b2 b3 b4 b5 b6 b7 b8 b9 b10 cI cJ cZ th nD nR vs ac now o mt mw zs.length nv dl el rt rv mk) U.heap ∧ va_K (dC, dI) vwCl [(cI, .int), (cJ, .long), (cZ, .boolean)] U)) (vp_Si (fun v => v = 1 ∧ wm_ri dl el ∨ v = 0 ∧ ¬ wm_ri dl el)) 0 0 (fun _ => False) := by
  refine Met.ofW (cc := cX1_rises) (maxL := 3) (ret := (some .boolean)) (by decide) rfl ?_
  intro p e s m args below meth c s₁ B hml hv
  obtain ⟨rfl, hP, hK⟩ := hv
  have hx := B.exec
  have hb := B.bytes
  have hr := B.returns
  have hts := atoms_spec (ws := wsX1_rises) B.pre
  have hown : s.vm.findClass RX1 = some m.cls := findClass_of_methodNamed B.named
  have hlocks := B.notSynchronized
  have hall := fun (w : Cond) (h : w ∈ allw) => hts w (List.mem_cons_of_mem _ h)
  have hl := lv_entry ([.ref y]) (n := 3) (Nat.le_of_ble_eq_true rfl)
  rw [lg_entry_eq]
  generalize (lg_sl ([.ref y]) ++ List.replicate (3 - (lg_sl ([.ref y])).length) Slot.unset).toArray = ls at hl ⊢
  have hl : lv_has ls 3 [(0, .ref y)] := hl
  refine lv_iconst (v := 1) hx hb dX1_rises_0 (by decide) ?_
  refine tp_i (y := bI true) bI_t ?_
  refine lv_istore_n (lv' := [(1, .int (bI true)), (0, .ref y)]) hx hb dX1_rises_1 rfl hl (by decide) rfl (fun ls hl => ?_)
  refine lv_iconst (v := 1) hx hb dX1_rises_2 (by decide) ?_
  refine tp_i (y := nI 1) (by decide) ?_
  refine lv_istore_n (lv' := [(2, .int (nI 1)), (1, .int (bI true)), (0, .ref y)]) hx hb dX1_rises_3 rfl hl (by decide) rfl (fun ls hl => ?_)
  have hloop : ∀ (n k : Nat) (g : Bool) (ls : Array Slot), (k + n = el ∨ el ≤ k ∧ n = 0) → 1 ≤ k → k ≤ 17 → (g = true ↔ ∀ j, 1 ≤ j → j < k → j < el → dl (j - 1) < dl j) → k + n ≤ el + 1 → lv_has ls 3 [(0, .ref y), (1, .int (bI g)), (2, .int (nI k))] → W p l e (headSpec wsX1_rises ({ frames := 0, cells := 0, slots := 0, locals := 0 })).room s m (([.ref y] : List Value).toArray) below meth c s.heap [] 0 0 (MQ below (vp_Si (fun v => v = 1 ∧ wm_ri dl el ∨ v = 0 ∧ ¬ wm_ri dl el)) (([.ref y] : List Value).toArray) s 0 0 (fun _ => False)) (F0 m 4 ls []) := by
    intro n
    induction n with
    | zero =>
      intro k g ls hk hk1 hk2 hg hb2 hl
      refine lv_iload_n hx hb dX1_rises_4 rfl (lv_at hl 2 rfl) ?_
      refine lv_aload_n hx hb dX1_rises_5 rfl (lv_at hl 0 rfl) ?_
      refine va_get (D := (dC, dI)) (ci := 1) (v := .int (nI el)) (C := RX1) (T := TX1) (N := 16) hx hb hall inX1 hown hK hP 0 rfl rfl 12 (by decide) (hall _ kw_335) (fun _ h9 => h9) rfl dX1_rises_6 ?_
      refine xc_ge (tgt := 46) hx hb (by omega) (by omega) dX1_rises_9 (by decide) (fun c_1 => ?_) (fun c_1 => ?_)
      · refine lv_iload_n hx hb dX1_rises_46 rfl (lv_at hl 1 rfl) ?_
        cases g with
        | true => exact W.zret (v := 1) (ty := .boolean) hx hb hr narrow_b1 (fun t9 ht hW => ⟨1, rfl, Or.inl ⟨rfl, fun j h1 h2 => hg.mp rfl j h1 (by omega) h2⟩, ht⟩) (fun q hq => nomatch hq) dX1_rises_47
        | false => exact W.zret (v := 0) (ty := .boolean) hx hb hr narrow_b0 (fun t9 ht hW => ⟨0, rfl, Or.inr ⟨rfl, fun q => absurd (hg.mpr (fun j h1 h2 h3 => q j h1 h3)) (by decide)⟩, ht⟩) (fun q hq => nomatch hq) dX1_rises_47
      · exact absurd c_1 (by omega)
    | succ n ih =>
      intro k g ls hk hk1 hk2 hg hb2 hl
      refine lv_iload_n hx hb dX1_rises_4 rfl (lv_at hl 2 rfl) ?_
      refine lv_aload_n hx hb dX1_rises_5 rfl (lv_at hl 0 rfl) ?_
      refine va_get (D := (dC, dI)) (ci := 1) (v := .int (nI el)) (C := RX1) (T := TX1) (N := 16) hx hb hall inX1 hown hK hP 0 rfl rfl 12 (by decide) (hall _ kw_335) (fun _ h9 => h9) rfl dX1_rises_6 ?_
      refine xc_ge (tgt := 46) hx hb (by omega) (by omega) dX1_rises_9 (by decide) (fun c_2 => ?_) (fun c_2 => ?_)
      · exact absurd c_2 (by omega)
      · refine lv_iload_n hx hb dX1_rises_12 rfl (lv_at hl 1 rfl) ?_
        refine xb_eq (tgt := 38) hx hb dX1_rises_13 (by decide) (fun c_3 => ?_) (fun c_3 => ?_)
        · have c_G := c_3
          refine lv_iconst (v := 0) hx hb dX1_rises_38 (by decide) ?_
          refine tp_i (y := bI false) bI_f ?_
          refine lv_istore_n (lv' := [(1, .int (bI false)), (0, .ref y), (2, .int (nI k))]) hx hb dX1_rises_39 rfl hl (by decide) rfl (fun ls hl => ?_)
          refine lv_iinc (v := nI (k + 1)) (lv' := [(2, .int (nI (k + 1))), (1, .int (bI false)), (0, .ref y)]) hx hb dX1_rises_40 hl (k := 2) rfl (nI_1 k) (by decide) rfl (fun ls hl => ?_)
          refine lv_goto (tgt := 4) hx hb dX1_rises_43 (by decide) ?_
          exact ih (k + 1) false ls (by omega) (by omega) (by omega) ⟨fun q => absurd q (by decide), fun q => by first | exact absurd (q k hk1 (by omega) (by omega)) (Int64.not_lt.mpr c_L) | exact absurd (hg.mpr (fun j h1 h2 h3 => q j h1 (by omega) h3)) (by rw [c_G]; decide)⟩ (by omega) (lv_sub hl [2, 1, 0] rfl)
        · have c_G := c_3
          refine lv_aload_n hx hb dX1_rises_16 rfl (lv_at hl 0 rfl) ?_
          refine va_get (D := (dC, dI)) (ci := 1) (v := .ref b7) (C := RX1) (T := TX1) (N := 16) hx hb hall inX1 hown hK hP 0 rfl rfl 11 (by decide) (hall _ kw_334) (fun _ h9 => h9) rfl dX1_rises_17 ?_
          refine lv_iload_n hx hb dX1_rises_20 rfl (lv_at hl 2 rfl) ?_
          refine xa_lald hx hb hK hP 7 1 rfl rfl (by omega) (by omega) dX1_rises_21 ?_
          refine lv_aload_n hx hb dX1_rises_22 rfl (lv_at hl 0 rfl) ?_
          refine va_get (D := (dC, dI)) (ci := 1) (v := .ref b7) (C := RX1) (T := TX1) (N := 16) hx hb hall inX1 hown hK hP 0 rfl rfl 11 (by decide) (hall _ kw_334) (fun _ h9 => h9) rfl dX1_rises_23 ?_
          refine lv_iload_n hx hb dX1_rises_26 rfl (lv_at hl 2 rfl) ?_
          refine lv_iconst (v := 1) hx hb dX1_rises_27 (by decide) ?_
          refine lv_isub hx hb dX1_rises_28 ?_
          refine tp_i (y := nI (k - 1)) (by rw [show k = (k - 1) + 1 by omega]; exact nI_pred (k - 1)) ?_
          refine xa_lald hx hb hK hP 7 1 rfl rfl (by omega) (by omega) dX1_rises_29 ?_
          refine xl_le (tgt := 38) hx hb dX1_rises_30 dX1_rises_31 (by decide) (fun c_4 => ?_) (fun c_4 => ?_)
          · have c_L := c_4
            refine lv_iconst (v := 0) hx hb dX1_rises_38 (by decide) ?_
            refine tp_i (y := bI false) bI_f ?_
            refine lv_istore_n (lv' := [(1, .int (bI false)), (0, .ref y), (2, .int (nI k))]) hx hb dX1_rises_39 rfl hl (by decide) rfl (fun ls hl => ?_)
            refine lv_iinc (v := nI (k + 1)) (lv' := [(2, .int (nI (k + 1))), (1, .int (bI false)), (0, .ref y)]) hx hb dX1_rises_40 hl (k := 2) rfl (nI_1 k) (by decide) rfl (fun ls hl => ?_)
            refine lv_goto (tgt := 4) hx hb dX1_rises_43 (by decide) ?_
            exact ih (k + 1) false ls (by omega) (by omega) (by omega) ⟨fun q => absurd q (by decide), fun q => by first | exact absurd (q k hk1 (by omega) (by omega)) (Int64.not_lt.mpr c_L) | exact absurd (hg.mpr (fun j h1 h2 h3 => q j h1 (by omega) h3)) (by rw [c_G]; decide)⟩ (by omega) (lv_sub hl [2, 1, 0] rfl)
          · have c_L := c_4
            refine lv_iconst (v := 1) hx hb dX1_rises_34 (by decide) ?_
            refine tp_i (y := bI true) bI_t ?_
            refine lv_goto (tgt := 39) hx hb dX1_rises_35 (by decide) ?_
            refine lv_istore_n (lv' := [(1, .int (bI true)), (0, .ref y), (2, .int (nI k))]) hx hb dX1_rises_39 rfl hl (by decide) rfl (fun ls hl => ?_)
            refine lv_iinc (v := nI (k + 1)) (lv' := [(2, .int (nI (k + 1))), (1, .int (bI true)), (0, .ref y)]) hx hb dX1_rises_40 hl (k := 2) rfl (nI_1 k) (by decide) rfl (fun ls hl => ?_)
            refine lv_goto (tgt := 4) hx hb dX1_rises_43 (by decide) ?_
            exact ih (k + 1) true ls (by omega) (by omega) (by omega) ⟨fun _ j h1 h2 h3 => by rcases Nat.lt_or_eq_of_le (Nat.le_of_lt_succ h2) with q | q; exact hg.mp c_G j h1 q h3; subst q; exact Int64.not_le.mp c_L, fun _ => rfl⟩ (by omega) (lv_sub hl [2, 1, 0] rfl)
  rcases Nat.lt_or_ge 1 el with q1 | q1
  · exact hloop (el - 1) 1 true ls (by omega) (by omega) (by omega) ⟨fun _ j h1 h2 => absurd h1 (by omega), fun _ => rfl⟩ (by omega) (lv_sub hl [2, 1, 0] rfl)
  · exact hloop 0 1 true ls (by omega) (by omega) (by omega) ⟨fun _ j h1 h2 => absurd h1 (by omega), fun _ => rfl⟩ (by omega) (lv_sub hl [2, 1, 0] rfl)
set_option maxHeartbeats 4000000 in
set_option maxRecDepth 100000 in
theorem m_count0 (l : Launch) (dC : Nat → ClassId) (dI : Nat → Nat → Nat) (y b1 b2 b3 b4 b5 b6 b7 b8 b9 b10 : Nat) (cI cJ cZ : ClassId) (th nD nR : Nat) (vs : Nat → Int64) (ac : Nat → Bool) (now : Int64) (o : Nat → Nat) (mt mw : Nat → Int64) (nv dl : Nat → Int64) (el : Nat) (rt rv : Nat → Int64) (mk : Nat → Bool) (zs : List ZT) (sz : Nat) (hI : wm_I nD nR el zs) (hZ : wz zs o mt mw) (d : Nat) (hd : d < nD) : Met l yX1_count wsX1_count ({ frames := 1, cells := 0, slots := 0, locals := 21 }) (va_Pc [.ref y, .int (nI d)] (fun U => U.heap.size = sz ∧ va_P (dC, dI) vwCl (wm y b1 b2 b3 b4 b5 b6 b7 b8 b9 b10 cI cJ cZ th nD nR vs ac now o mt mw zs.length nv dl el rt rv mk) U.heap ∧ va_K (dC, dI) vwCl [(cI, .int), (cJ, .long), (cZ, .boolean)] U ∧ va_D (fun _ => True) (wm y b1 b2 b3 b4 b5 b6 b7 b8 b9 b10 cI cJ cZ th nD nR vs ac now o mt mw zs.length nv dl el rt rv mk))) (va_Qi (fun (v : Int32) (_ : Unit) => v = nI (wc d zs)) (fun _ t9 => va_P (dC, dI) vwCl (wm y b1 b2 b3 b4 b5 b6 b7 b8 b9 b10 cI cJ cZ 0 nD nR vs ac now o mt mw zs.length nv dl el rt rv mk) t9.heap ∧ va_K (dC, dI) vwCl [(cI, .int), (cJ, .long), (cZ, .boolean)] t9 ∧ va_D (va_A (wm y b1 b2 b3 b4 b5 b6 b7 b8 b9 b10 cI cJ cZ th nD nR vs ac now o mt mw zs.length nv dl el rt rv mk) sz) (wm y b1 b2 b3 b4 b5 b6 b7 b8 b9 b10 cI cJ cZ 0 nD nR vs ac now o mt mw zs.length nv dl el rt rv mk)) (va_A (wm y b1 b2 b3 b4 b5 b6 b7 b8 b9 b10 cI cJ cZ th nD nR vs ac now o mt mw zs.length nv dl el rt rv mk) sz)) 0 0 (va_A (wm y b1 b2 b3 b4 b5 b6 b7 b8 b9 b10 cI cJ cZ th nD nR vs ac now o mt mw zs.length nv dl el rt rv mk) sz) := by
  refine Met.ofW (cc := cX1_count) (maxL := 4) (ret := (some .int)) (by decide) rfl ?_
  intro p e s m args below meth c s₁ B hml hv
  obtain ⟨rfl, hsz, hP, hK, hD0⟩ := hv
  subst hsz
  have hD := hD0.self (sz := s.heap.size)
  generalize hAe : va_A (wm y b1 b2 b3 b4 b5 b6 b7 b8 b9 b10 cI cJ cZ th nD nR vs ac now o mt mw zs.length nv dl el rt rv mk) s.heap.size = A at hD ⊢
  have hA : ∀ q : Nat, s.heap.size ≤ q → A q := fun q h => by rw [← hAe]; exact Or.inr h
  have hS : va_S A s.heap s.heap [] := va_S.rf
  have hx := B.exec
  have hb := B.bytes
  have hr := B.returns
  have hts := atoms_spec (ws := wsX1_count) B.pre
  have hown : s.vm.findClass RX1 = some m.cls := findClass_of_methodNamed B.named
  have hlocks := B.notSynchronized
  have hall := fun (w : Cond) (h : w ∈ allw) => hts w (List.mem_cons_of_mem _ h)
  have hl := lv_entry ([.ref y, .int (nI d)]) (n := 4) (Nat.le_of_ble_eq_true rfl)
  rw [lg_entry_eq]
  generalize (lg_sl ([.ref y, .int (nI d)]) ++ List.replicate (4 - (lg_sl ([.ref y, .int (nI d)])).length) Slot.unset).toArray = ls at hl ⊢
  have hl : lv_has ls 4 [(0, .ref y), (1, .int (nI d))] := hl
  have hI0 := hI
  obtain ⟨hnD1, hnD, hnR1, hnR, hzR, hel, how⟩ := hI
  refine lv_aload_n hx hb dX1_count_0 rfl (lv_at hl 0 rfl) ?_
  refine lv_aload_n hx hb dX1_count_1 rfl (lv_at hl 0 rfl) ?_
  refine lv_iload_n hx hb dX1_count_2 rfl (lv_at hl 1 rfl) ?_
  refine vp_callSi (W.runV (As := [.int (nI d)]) (rest := [.ref y]) ⟨hx, hb, hml, hown, hall⟩ (m_none0 l dC dI y b1 b2 b3 b4 b5 b6 b7 b8 b9 b10 cI cJ cZ th nD nR vs ac now o mt mw nv dl el rt rv mk zs hI0 hZ d hd) (cwV 1 hall gX1_60 rfl rfl rfl (by decide +kernel) ⟨Nat.le_of_ble_eq_true rfl, Nat.le_of_ble_eq_true rfl⟩) ⟨xr_blind, va_recv hK hP (ci := 1) (q0 := 0) rfl rfl, fun U hU hW => ⟨rfl, by rw [hU]; exact hP, va_K.moved hW.alike hK⟩⟩ rfl rfl hl.1 rfl (lv_room (Nat.le_of_ble_eq_true rfl)) dX1_count_3 ⟨by first | exact Nat.zero_le _ | omega, by first | exact Nat.zero_le _ | omega⟩) (fun v_1 hv_2 => ?_)
  subst hv_2
  refine lv_if_eq (tgt := 13) hx hb dX1_count_6 (by decide) (fun c_3 => ?_) (fun c_3 => ?_)
  · refine lv_iconst (v := 0) hx hb dX1_count_13 (by decide) ?_
    refine tp_i (y := nI 0) nI_0.symm ?_
    refine va_put (D := (dC, dI)) (ci := 1) (v := .int (nI 0)) (ty := .int) (C := RX1) (T := TX1) (N := 16) hx hb hall inX1 tyX1 tyX1_ok nmX1 hown hK hP hD hS 0 rfl rfl 0 (by decide) (hall _ kw_323) (fun _ h9 => h9) rfl (by decide +kernel) rfl rfl (Nat.le_of_ble_eq_true rfl) dX1_count_14 (fun H locs hP hD hS => ?_)
    have hP : va_P (dC, dI) vwCl [(y, .inr (1, [.int (nI 0), .int (nI nD), .int (nI nR), .ref b1, .ref b2, .long now, .ref b3, .ref b4, .ref b5, .int (nI zs.length), .ref b6, .ref b7, .int (nI el), .ref b8, .ref b9, .ref b10])), (b1, .inl (cJ, 512, .inr (.inl vs))), (b2, .inl (cZ, 512, .inl (fun j => bI (ac j)))), (b3, .inl (cI, 8192, .inl (fun j => nI (o j)))), (b4, .inl (cJ, 8192, .inr (.inl mt))), (b5, .inl (cJ, 8192, .inr (.inl mw))), (b6, .inl (cJ, 16, .inr (.inl nv))), (b7, .inl (cJ, 16, .inr (.inl dl))), (b8, .inl (cJ, 8208, .inr (.inl rt))), (b9, .inl (cJ, 8208, .inr (.inl rv))), (b10, .inl (cZ, 8208, .inl (fun j => bI (mk j))))] H := hP
    have hD : va_D A [(y, .inr (1, [.int (nI 0), .int (nI nD), .int (nI nR), .ref b1, .ref b2, .long now, .ref b3, .ref b4, .ref b5, .int (nI zs.length), .ref b6, .ref b7, .int (nI el), .ref b8, .ref b9, .ref b10])), (b1, .inl (cJ, 512, .inr (.inl vs))), (b2, .inl (cZ, 512, .inl (fun j => bI (ac j)))), (b3, .inl (cI, 8192, .inl (fun j => nI (o j)))), (b4, .inl (cJ, 8192, .inr (.inl mt))), (b5, .inl (cJ, 8192, .inr (.inl mw))), (b6, .inl (cJ, 16, .inr (.inl nv))), (b7, .inl (cJ, 16, .inr (.inl dl))), (b8, .inl (cJ, 8208, .inr (.inl rt))), (b9, .inl (cJ, 8208, .inr (.inl rv))), (b10, .inl (cZ, 8208, .inl (fun j => bI (mk j))))] := hD
    refine lv_iconst (v := 0) hx hb dX1_count_17 (by decide) ?_
    refine tp_i (y := nI 0) nI_0.symm ?_
    refine lv_istore_n (lv' := [(2, .int (nI 0)), (0, .ref y), (1, .int (nI d))]) hx hb dX1_count_18 rfl hl (by decide) rfl (fun ls hl => ?_)
    refine lv_iconst (v := 0) hx hb dX1_count_19 (by decide) ?_
    refine tp_i (y := nI 0) nI_0.symm ?_
    refine lv_istore_n (lv' := [(3, .int (nI 0)), (2, .int (nI 0)), (0, .ref y), (1, .int (nI d))]) hx hb dX1_count_20 rfl hl (by decide) rfl (fun ls hl => ?_)
    have hloop : ∀ (ss : List ZT) (k : Nat) (c0 : Nat) (H : Heap) (locs : List Loc) (ls : Array Slot), zs.drop k = ss → k ≤ zs.length → c0 ≤ k → c0 + wc d ss = wc d zs → va_P (dC, dI) vwCl [(y, .inr (1, [.int (nI 0), .int (nI nD), .int (nI nR), .ref b1, .ref b2, .long now, .ref b3, .ref b4, .ref b5, .int (nI zs.length), .ref b6, .ref b7, .int (nI el), .ref b8, .ref b9, .ref b10])), (b1, .inl (cJ, 512, .inr (.inl vs))), (b2, .inl (cZ, 512, .inl (fun j => bI (ac j)))), (b3, .inl (cI, 8192, .inl (fun j => nI (o j)))), (b4, .inl (cJ, 8192, .inr (.inl mt))), (b5, .inl (cJ, 8192, .inr (.inl mw))), (b6, .inl (cJ, 16, .inr (.inl nv))), (b7, .inl (cJ, 16, .inr (.inl dl))), (b8, .inl (cJ, 8208, .inr (.inl rt))), (b9, .inl (cJ, 8208, .inr (.inl rv))), (b10, .inl (cZ, 8208, .inl (fun j => bI (mk j))))] H → va_D A [(y, .inr (1, [.int (nI 0), .int (nI nD), .int (nI nR), .ref b1, .ref b2, .long now, .ref b3, .ref b4, .ref b5, .int (nI zs.length), .ref b6, .ref b7, .int (nI el), .ref b8, .ref b9, .ref b10])), (b1, .inl (cJ, 512, .inr (.inl vs))), (b2, .inl (cZ, 512, .inl (fun j => bI (ac j)))), (b3, .inl (cI, 8192, .inl (fun j => nI (o j)))), (b4, .inl (cJ, 8192, .inr (.inl mt))), (b5, .inl (cJ, 8192, .inr (.inl mw))), (b6, .inl (cJ, 16, .inr (.inl nv))), (b7, .inl (cJ, 16, .inr (.inl dl))), (b8, .inl (cJ, 8208, .inr (.inl rt))), (b9, .inl (cJ, 8208, .inr (.inl rv))), (b10, .inl (cZ, 8208, .inl (fun j => bI (mk j))))] → va_S A s.heap H locs → lv_has ls 4 [(0, .ref y), (1, .int (nI d)), (2, .int (nI c0)), (3, .int (nI k))] → W p l e (headSpec wsX1_count ({ frames := 1, cells := 0, slots := 0, locals := 21 })).room s m (([.ref y, .int (nI d)] : List Value).toArray) below meth c H locs 0 0 (MQ below (va_Qi (fun (v : Int32) (_ : Unit) => v = nI (wc d zs)) (fun _ t9 => va_P (dC, dI) vwCl (wm y b1 b2 b3 b4 b5 b6 b7 b8 b9 b10 cI cJ cZ 0 nD nR vs ac now o mt mw zs.length nv dl el rt rv mk) t9.heap ∧ va_K (dC, dI) vwCl [(cI, .int), (cJ, .long), (cZ, .boolean)] t9 ∧ va_D A (wm y b1 b2 b3 b4 b5 b6 b7 b8 b9 b10 cI cJ cZ 0 nD nR vs ac now o mt mw zs.length nv dl el rt rv mk)) A) (([.ref y, .int (nI d)] : List Value).toArray) s 0 0 A) (F0 m 21 ls []) := by
      intro ss
      induction ss with
      | nil =>
        intro k c0 H locs ls hss hkl hck hw hP hD hS hl
        have hk := wz_nil hss
        refine lv_iload_n hx hb dX1_count_21 rfl (lv_at hl 3 rfl) ?_
        refine lv_aload_n hx hb dX1_count_22 rfl (lv_at hl 0 rfl) ?_
        refine va_get (D := (dC, dI)) (ci := 1) (v := .int (nI zs.length)) (C := RX1) (T := TX1) (N := 16) hx hb hall inX1 hown hK hP 0 rfl rfl 9 (by decide) (hall _ kw_332) (fun _ h9 => h9) rfl dX1_count_23 ?_
        refine xc_ge (tgt := 60) hx hb (by omega) (by omega) dX1_count_26 (by decide) (fun c_4 => ?_) (fun c_4 => ?_)
        · refine lv_iload_n hx hb dX1_count_60 rfl (lv_at hl 2 rfl) ?_
          exact W.iret (v := nI c0) hx hb hr (fun t9 ht hW => ⟨⟨nI c0, (), rfl, congrArg nI hw, by rw [ht]; exact hP, va_K.moved hW.alike hK, hD⟩, hS.F ht⟩) hS.2.2 dX1_count_61
        · exact absurd c_4 (by omega)
      | cons z tl ih =>
        intro k c0 H locs ls hss hkl hck hw hP hD hS hl
        obtain ⟨hk, hzk, htl⟩ := wz_drop hss
        obtain ⟨ez1, ez2, ez3⟩ := hZ k z hzk
        have hod : o k < 512 := by have := how z (List.mem_of_getElem? hzk); omega
        refine lv_iload_n hx hb dX1_count_21 rfl (lv_at hl 3 rfl) ?_
        refine lv_aload_n hx hb dX1_count_22 rfl (lv_at hl 0 rfl) ?_
        refine va_get (D := (dC, dI)) (ci := 1) (v := .int (nI zs.length)) (C := RX1) (T := TX1) (N := 16) hx hb hall inX1 hown hK hP 0 rfl rfl 9 (by decide) (hall _ kw_332) (fun _ h9 => h9) rfl dX1_count_23 ?_
        refine xc_ge (tgt := 60) hx hb (by omega) (by omega) dX1_count_26 (by decide) (fun c_5 => ?_) (fun c_5 => ?_)
        · exact absurd c_5 (by omega)
        · refine lv_aload_n hx hb dX1_count_29 rfl (lv_at hl 0 rfl) ?_
          refine va_get (D := (dC, dI)) (ci := 1) (v := .int (nI 0)) (C := RX1) (T := TX1) (N := 16) hx hb hall inX1 hown hK hP 0 rfl rfl 0 (by decide) (hall _ kw_323) (fun _ h9 => h9) rfl dX1_count_30 ?_
          refine xz_ne (tgt := 60) hx hb (by omega) dX1_count_33 (by decide) (fun c_6 => ?_) (fun c_6 => ?_)
          · exact absurd c_6 (by omega)
          · refine lv_aload_n hx hb dX1_count_36 rfl (lv_at hl 0 rfl) ?_
            refine va_get (D := (dC, dI)) (ci := 1) (v := .ref b3) (C := RX1) (T := TX1) (N := 16) hx hb hall inX1 hown hK hP 0 rfl rfl 6 (by decide) (hall _ kw_329) (fun _ h9 => h9) rfl dX1_count_37 ?_
            refine lv_iload_n hx hb dX1_count_40 rfl (lv_at hl 3 rfl) ?_
            refine xa_iald hx hb hK hP 3 0 rfl rfl (by omega) (by omega) dX1_count_41 ?_
            refine lv_iload_n hx hb dX1_count_42 rfl (lv_at hl 1 rfl) ?_
            refine xc_ne (tgt := 52) hx hb (by omega) (by omega) dX1_count_43 (by decide) (fun c_7 => ?_) (fun c_7 => ?_)
            · have c_A := c_7
              refine lv_iload_n hx hb dX1_count_52 rfl (lv_at hl 2 rfl) ?_
              refine lv_istore_n (lv' := [(2, .int (nI c0)), (0, .ref y), (1, .int (nI d)), (3, .int (nI k))]) hx hb dX1_count_53 rfl hl (by decide) rfl (fun ls hl => ?_)
              refine lv_iinc (v := nI (k + 1)) (lv' := [(3, .int (nI (k + 1))), (2, .int (nI c0)), (0, .ref y), (1, .int (nI d))]) hx hb dX1_count_54 hl (k := 3) rfl (nI_1 k) (by decide) rfl (fun ls hl => ?_)
              refine lv_goto (tgt := 21) hx hb dX1_count_57 (by decide) ?_
              exact ih (k + 1) (c0) H locs ls htl (by omega) (by omega) (by rw [← hw]; show _ = _ + ((if z.1 = d then 1 else 0) + wc d tl); first | rw [if_pos (ez1.symm.trans c_A)]; omega | rw [if_neg (fun q => c_A (ez1.trans q))]; omega) hP hD hS (lv_sub hl [2, 3, 1, 0] rfl)
            · have c_A := c_7
              refine lv_iload_n hx hb dX1_count_46 rfl (lv_at hl 2 rfl) ?_
              refine lv_iconst (v := 1) hx hb dX1_count_47 (by decide) ?_
              refine lv_iadd hx hb dX1_count_48 ?_
              refine tp_i (y := nI (c0 + 1)) (nI_1 c0) ?_
              refine lv_goto (tgt := 53) hx hb dX1_count_49 (by decide) ?_
              refine lv_istore_n (lv' := [(2, .int (nI (c0 + 1))), (0, .ref y), (1, .int (nI d)), (3, .int (nI k))]) hx hb dX1_count_53 rfl hl (by decide) rfl (fun ls hl => ?_)
              refine lv_iinc (v := nI (k + 1)) (lv' := [(3, .int (nI (k + 1))), (2, .int (nI (c0 + 1))), (0, .ref y), (1, .int (nI d))]) hx hb dX1_count_54 hl (k := 3) rfl (nI_1 k) (by decide) rfl (fun ls hl => ?_)
              refine lv_goto (tgt := 21) hx hb dX1_count_57 (by decide) ?_
              exact ih (k + 1) (c0 + 1) H locs ls htl (by omega) (by omega) (by rw [← hw]; show _ = _ + ((if z.1 = d then 1 else 0) + wc d tl); first | rw [if_pos (ez1.symm.trans c_A)]; omega | rw [if_neg (fun q => c_A (ez1.trans q))]; omega) hP hD hS (lv_sub hl [2, 3, 1, 0] rfl)
    exact hloop zs 0 0 H locs ls rfl (by omega) (by omega) (by omega) hP hD hS (lv_sub hl [2, 3, 1, 0] rfl)
  · exact absurd rfl c_3
set_option maxHeartbeats 4000000 in
set_option maxRecDepth 100000 in
theorem m_count1 (l : Launch) (dC : Nat → ClassId) (dI : Nat → Nat → Nat) (y b1 b2 b3 b4 b5 b6 b7 b8 b9 b10 : Nat) (cI cJ cZ : ClassId) (th nD nR : Nat) (vs : Nat → Int64) (ac : Nat → Bool) (now : Int64) (o : Nat → Nat) (mt mw : Nat → Int64) (nv dl : Nat → Int64) (el : Nat) (rt rv : Nat → Int64) (mk : Nat → Bool) (zs : List ZT) (sz : Nat) (hI : wm_I nD nR el zs) (hZ : wz zs o mt mw) (i : Int32) (hbad : i < 0 ∨ nI nD ≤ i) : Met l yX1_count wsX1_count ({ frames := 1, cells := 0, slots := 0, locals := 21 }) (va_Pc [.ref y, .int i] (fun U => U.heap.size = sz ∧ va_P (dC, dI) vwCl (wm y b1 b2 b3 b4 b5 b6 b7 b8 b9 b10 cI cJ cZ th nD nR vs ac now o mt mw zs.length nv dl el rt rv mk) U.heap ∧ va_K (dC, dI) vwCl [(cI, .int), (cJ, .long), (cZ, .boolean)] U ∧ va_D (fun _ => True) (wm y b1 b2 b3 b4 b5 b6 b7 b8 b9 b10 cI cJ cZ th nD nR vs ac now o mt mw zs.length nv dl el rt rv mk))) (va_Qi (fun (v : Int32) (_ : Unit) => True) (fun _ t9 => va_P (dC, dI) vwCl (wm y b1 b2 b3 b4 b5 b6 b7 b8 b9 b10 cI cJ cZ 1 nD nR vs ac now o mt mw zs.length nv dl el rt rv mk) t9.heap ∧ va_K (dC, dI) vwCl [(cI, .int), (cJ, .long), (cZ, .boolean)] t9 ∧ va_D (va_A (wm y b1 b2 b3 b4 b5 b6 b7 b8 b9 b10 cI cJ cZ th nD nR vs ac now o mt mw zs.length nv dl el rt rv mk) sz) (wm y b1 b2 b3 b4 b5 b6 b7 b8 b9 b10 cI cJ cZ 1 nD nR vs ac now o mt mw zs.length nv dl el rt rv mk)) (va_A (wm y b1 b2 b3 b4 b5 b6 b7 b8 b9 b10 cI cJ cZ th nD nR vs ac now o mt mw zs.length nv dl el rt rv mk) sz)) 0 0 (va_A (wm y b1 b2 b3 b4 b5 b6 b7 b8 b9 b10 cI cJ cZ th nD nR vs ac now o mt mw zs.length nv dl el rt rv mk) sz) := by
  refine Met.ofW (cc := cX1_count) (maxL := 4) (ret := (some .int)) (by decide) rfl ?_
  intro p e s m args below meth c s₁ B hml hv
  obtain ⟨rfl, hsz, hP, hK, hD0⟩ := hv
  subst hsz
  have hD := hD0.self (sz := s.heap.size)
  generalize hAe : va_A (wm y b1 b2 b3 b4 b5 b6 b7 b8 b9 b10 cI cJ cZ th nD nR vs ac now o mt mw zs.length nv dl el rt rv mk) s.heap.size = A at hD ⊢
  have hA : ∀ q : Nat, s.heap.size ≤ q → A q := fun q h => by rw [← hAe]; exact Or.inr h
  have hS : va_S A s.heap s.heap [] := va_S.rf
  have hx := B.exec
  have hb := B.bytes
  have hr := B.returns
  have hts := atoms_spec (ws := wsX1_count) B.pre
  have hown : s.vm.findClass RX1 = some m.cls := findClass_of_methodNamed B.named
  have hlocks := B.notSynchronized
  have hall := fun (w : Cond) (h : w ∈ allw) => hts w (List.mem_cons_of_mem _ h)
  have hl := lv_entry ([.ref y, .int i]) (n := 4) (Nat.le_of_ble_eq_true rfl)
  rw [lg_entry_eq]
  generalize (lg_sl ([.ref y, .int i]) ++ List.replicate (4 - (lg_sl ([.ref y, .int i])).length) Slot.unset).toArray = ls at hl ⊢
  have hl : lv_has ls 4 [(0, .ref y), (1, .int i)] := hl
  obtain ⟨hnD1, hnD, hnR1, hnR, hzR, hel, how⟩ := hI
  refine lv_aload_n hx hb dX1_count_0 rfl (lv_at hl 0 rfl) ?_
  refine lv_aload_n hx hb dX1_count_1 rfl (lv_at hl 0 rfl) ?_
  refine lv_iload_n hx hb dX1_count_2 rfl (lv_at hl 1 rfl) ?_
  refine vp_callSi (W.runV (As := [.int i]) (rest := [.ref y]) ⟨hx, hb, hml, hown, hall⟩ (m_none1 l dC dI y b1 b2 b3 b4 b5 b6 b7 b8 b9 b10 cI cJ cZ th nD nR vs ac now o mt mw nv dl el rt rv mk zs i hbad) (cwV 1 hall gX1_60 rfl rfl rfl (by decide +kernel) ⟨Nat.le_of_ble_eq_true rfl, Nat.le_of_ble_eq_true rfl⟩) ⟨xr_blind, va_recv hK hP (ci := 1) (q0 := 0) rfl rfl, fun U hU hW => ⟨rfl, by rw [hU]; exact hP, va_K.moved hW.alike hK⟩⟩ rfl rfl hl.1 rfl (lv_room (Nat.le_of_ble_eq_true rfl)) dX1_count_3 ⟨by first | exact Nat.zero_le _ | omega, by first | exact Nat.zero_le _ | omega⟩) (fun v_1 hv_2 => ?_)
  subst hv_2
  refine lv_if_eq (tgt := 13) hx hb dX1_count_6 (by decide) (fun c_3 => ?_) (fun c_3 => ?_)
  · exact absurd c_3 (by decide)
  · refine lv_iconst (v := 1) hx hb dX1_count_9 (by decide) ?_
    refine tp_i (y := nI 1) (by decide) ?_
    refine lv_goto (tgt := 14) hx hb dX1_count_10 (by decide) ?_
    refine va_put (D := (dC, dI)) (ci := 1) (v := .int (nI 1)) (ty := .int) (C := RX1) (T := TX1) (N := 16) hx hb hall inX1 tyX1 tyX1_ok nmX1 hown hK hP hD hS 0 rfl rfl 0 (by decide) (hall _ kw_323) (fun _ h9 => h9) rfl (by decide +kernel) rfl rfl (Nat.le_of_ble_eq_true rfl) dX1_count_14 (fun H locs hP hD hS => ?_)
    have hP : va_P (dC, dI) vwCl [(y, .inr (1, [.int (nI 1), .int (nI nD), .int (nI nR), .ref b1, .ref b2, .long now, .ref b3, .ref b4, .ref b5, .int (nI zs.length), .ref b6, .ref b7, .int (nI el), .ref b8, .ref b9, .ref b10])), (b1, .inl (cJ, 512, .inr (.inl vs))), (b2, .inl (cZ, 512, .inl (fun j => bI (ac j)))), (b3, .inl (cI, 8192, .inl (fun j => nI (o j)))), (b4, .inl (cJ, 8192, .inr (.inl mt))), (b5, .inl (cJ, 8192, .inr (.inl mw))), (b6, .inl (cJ, 16, .inr (.inl nv))), (b7, .inl (cJ, 16, .inr (.inl dl))), (b8, .inl (cJ, 8208, .inr (.inl rt))), (b9, .inl (cJ, 8208, .inr (.inl rv))), (b10, .inl (cZ, 8208, .inl (fun j => bI (mk j))))] H := hP
    have hD : va_D A [(y, .inr (1, [.int (nI 1), .int (nI nD), .int (nI nR), .ref b1, .ref b2, .long now, .ref b3, .ref b4, .ref b5, .int (nI zs.length), .ref b6, .ref b7, .int (nI el), .ref b8, .ref b9, .ref b10])), (b1, .inl (cJ, 512, .inr (.inl vs))), (b2, .inl (cZ, 512, .inl (fun j => bI (ac j)))), (b3, .inl (cI, 8192, .inl (fun j => nI (o j)))), (b4, .inl (cJ, 8192, .inr (.inl mt))), (b5, .inl (cJ, 8192, .inr (.inl mw))), (b6, .inl (cJ, 16, .inr (.inl nv))), (b7, .inl (cJ, 16, .inr (.inl dl))), (b8, .inl (cJ, 8208, .inr (.inl rt))), (b9, .inl (cJ, 8208, .inr (.inl rv))), (b10, .inl (cZ, 8208, .inl (fun j => bI (mk j))))] := hD
    refine lv_iconst (v := 0) hx hb dX1_count_17 (by decide) ?_
    refine tp_i (y := nI 0) nI_0.symm ?_
    refine lv_istore_n (lv' := [(2, .int (nI 0)), (0, .ref y), (1, .int i)]) hx hb dX1_count_18 rfl hl (by decide) rfl (fun ls hl => ?_)
    refine lv_iconst (v := 0) hx hb dX1_count_19 (by decide) ?_
    refine tp_i (y := nI 0) nI_0.symm ?_
    refine lv_istore_n (lv' := [(3, .int (nI 0)), (2, .int (nI 0)), (0, .ref y), (1, .int i)]) hx hb dX1_count_20 rfl hl (by decide) rfl (fun ls hl => ?_)
    refine lv_iload_n hx hb dX1_count_21 rfl (lv_at hl 0 rfl) ?_
    refine lv_aload_n hx hb dX1_count_22 rfl (lv_at hl 2 rfl) ?_
    refine va_get (D := (dC, dI)) (ci := 1) (v := .int (nI zs.length)) (C := RX1) (T := TX1) (N := 16) hx hb hall inX1 hown hK hP 0 rfl rfl 9 (by decide) (hall _ kw_332) (fun _ h9 => h9) rfl dX1_count_23 ?_
    refine xc_ge (tgt := 60) hx hb (by omega) (by omega) dX1_count_26 (by decide) (fun c_4 => ?_) (fun c_4 => ?_)
    · refine lv_iload_n hx hb dX1_count_60 rfl (lv_at hl 1 rfl) ?_
      exact W.iret (v := nI 0) hx hb hr (fun t9 ht hW => ⟨⟨nI 0, (), rfl, trivial, by rw [ht]; exact hP, va_K.moved hW.alike hK, hD⟩, hS.F ht⟩) hS.2.2 dX1_count_61
    · refine lv_aload_n hx hb dX1_count_29 rfl (lv_at hl 2 rfl) ?_
      refine va_get (D := (dC, dI)) (ci := 1) (v := .int (nI 1)) (C := RX1) (T := TX1) (N := 16) hx hb hall inX1 hown hK hP 0 rfl rfl 0 (by decide) (hall _ kw_323) (fun _ h9 => h9) rfl dX1_count_30 ?_
      refine xz_ne (tgt := 60) hx hb (by omega) dX1_count_33 (by decide) (fun c_5 => ?_) (fun c_5 => ?_)
      · refine lv_iload_n hx hb dX1_count_60 rfl (lv_at hl 1 rfl) ?_
        exact W.iret (v := nI 0) hx hb hr (fun t9 ht hW => ⟨⟨nI 0, (), rfl, trivial, by rw [ht]; exact hP, va_K.moved hW.alike hK, hD⟩, hS.F ht⟩) hS.2.2 dX1_count_61
      · exact absurd c_5 (by omega)
set_option maxHeartbeats 4000000 in
set_option maxRecDepth 100000 in
theorem m_next (l : Launch) (dC : Nat → ClassId) (dI : Nat → Nat → Nat) (y b1 b2 b3 b4 b5 b6 b7 b8 b9 b10 : Nat) (cI cJ cZ : ClassId) (th nD nR : Nat) (vs : Nat → Int64) (ac : Nat → Bool) (now : Int64) (o : Nat → Nat) (mt mw : Nat → Int64) (nv dl : Nat → Int64) (el : Nat) (rt rv : Nat → Int64) (mk : Nat → Bool) (zs : List ZT) (sz : Nat) (hI : wm_I nD nR el zs) (hZ : wz zs o mt mw) : Met l yX1_next wsX1_next ({ frames := 0, cells := 0, slots := 0, locals := 0 }) (va_Pc [.ref y] (fun U => U.heap.size = sz ∧ va_P (dC, dI) vwCl (wm y b1 b2 b3 b4 b5 b6 b7 b8 b9 b10 cI cJ cZ th nD nR vs ac now o mt mw zs.length nv dl el rt rv mk) U.heap ∧ va_K (dC, dI) vwCl [(cI, .int), (cJ, .long), (cZ, .boolean)] U ∧ va_D (fun _ => True) (wm y b1 b2 b3 b4 b5 b6 b7 b8 b9 b10 cI cJ cZ th nD nR vs ac now o mt mw zs.length nv dl el rt rv mk))) (va_Ql (fun (v : Int64) (_ : Unit) => v = wnx zs (-1)) (fun _ t9 => va_P (dC, dI) vwCl (wm y b1 b2 b3 b4 b5 b6 b7 b8 b9 b10 cI cJ cZ 0 nD nR vs ac now o mt mw zs.length nv dl el rt rv mk) t9.heap ∧ va_K (dC, dI) vwCl [(cI, .int), (cJ, .long), (cZ, .boolean)] t9 ∧ va_D (va_A (wm y b1 b2 b3 b4 b5 b6 b7 b8 b9 b10 cI cJ cZ th nD nR vs ac now o mt mw zs.length nv dl el rt rv mk) sz) (wm y b1 b2 b3 b4 b5 b6 b7 b8 b9 b10 cI cJ cZ 0 nD nR vs ac now o mt mw zs.length nv dl el rt rv mk)) (va_A (wm y b1 b2 b3 b4 b5 b6 b7 b8 b9 b10 cI cJ cZ th nD nR vs ac now o mt mw zs.length nv dl el rt rv mk) sz)) 0 0 (va_A (wm y b1 b2 b3 b4 b5 b6 b7 b8 b9 b10 cI cJ cZ th nD nR vs ac now o mt mw zs.length nv dl el rt rv mk) sz) := by
  refine Met.ofW (cc := cX1_next) (maxL := 4) (ret := (some .long)) (by decide) rfl ?_
  intro p e s m args below meth c s₁ B hml hv
  obtain ⟨rfl, hsz, hP, hK, hD0⟩ := hv
  subst hsz
  have hD := hD0.self (sz := s.heap.size)
  generalize hAe : va_A (wm y b1 b2 b3 b4 b5 b6 b7 b8 b9 b10 cI cJ cZ th nD nR vs ac now o mt mw zs.length nv dl el rt rv mk) s.heap.size = A at hD ⊢
  have hA : ∀ q : Nat, s.heap.size ≤ q → A q := fun q h => by rw [← hAe]; exact Or.inr h
  have hS : va_S A s.heap s.heap [] := va_S.rf
  have hx := B.exec
  have hb := B.bytes
  have hr := B.returns
  have hts := atoms_spec (ws := wsX1_next) B.pre
  have hown : s.vm.findClass RX1 = some m.cls := findClass_of_methodNamed B.named
  have hlocks := B.notSynchronized
  have hall := fun (w : Cond) (h : w ∈ allw) => hts w (List.mem_cons_of_mem _ h)
  have hl := lv_entry ([.ref y]) (n := 4) (Nat.le_of_ble_eq_true rfl)
  rw [lg_entry_eq]
  generalize (lg_sl ([.ref y]) ++ List.replicate (4 - (lg_sl ([.ref y])).length) Slot.unset).toArray = ls at hl ⊢
  have hl : lv_has ls 4 [(0, .ref y)] := hl
  have hI0 := hI
  obtain ⟨hnD1, hnD, hnR1, hnR, hzR, hel, how⟩ := hI
  refine lv_aload_n hx hb dX1_next_0 rfl (lv_at hl 0 rfl) ?_
  refine lv_iconst (v := 0) hx hb dX1_next_1 (by decide) ?_
  refine tp_i (y := nI 0) nI_0.symm ?_
  refine va_put (D := (dC, dI)) (ci := 1) (v := .int (nI 0)) (ty := .int) (C := RX1) (T := TX1) (N := 16) hx hb hall inX1 tyX1 tyX1_ok nmX1 hown hK hP hD hS 0 rfl rfl 0 (by decide) (hall _ kw_323) (fun _ h9 => h9) rfl (by decide +kernel) rfl rfl (Nat.le_of_ble_eq_true rfl) dX1_next_2 (fun H locs hP hD hS => ?_)
  have hP : va_P (dC, dI) vwCl [(y, .inr (1, [.int (nI 0), .int (nI nD), .int (nI nR), .ref b1, .ref b2, .long now, .ref b3, .ref b4, .ref b5, .int (nI zs.length), .ref b6, .ref b7, .int (nI el), .ref b8, .ref b9, .ref b10])), (b1, .inl (cJ, 512, .inr (.inl vs))), (b2, .inl (cZ, 512, .inl (fun j => bI (ac j)))), (b3, .inl (cI, 8192, .inl (fun j => nI (o j)))), (b4, .inl (cJ, 8192, .inr (.inl mt))), (b5, .inl (cJ, 8192, .inr (.inl mw))), (b6, .inl (cJ, 16, .inr (.inl nv))), (b7, .inl (cJ, 16, .inr (.inl dl))), (b8, .inl (cJ, 8208, .inr (.inl rt))), (b9, .inl (cJ, 8208, .inr (.inl rv))), (b10, .inl (cZ, 8208, .inl (fun j => bI (mk j))))] H := hP
  have hD : va_D A [(y, .inr (1, [.int (nI 0), .int (nI nD), .int (nI nR), .ref b1, .ref b2, .long now, .ref b3, .ref b4, .ref b5, .int (nI zs.length), .ref b6, .ref b7, .int (nI el), .ref b8, .ref b9, .ref b10])), (b1, .inl (cJ, 512, .inr (.inl vs))), (b2, .inl (cZ, 512, .inl (fun j => bI (ac j)))), (b3, .inl (cI, 8192, .inl (fun j => nI (o j)))), (b4, .inl (cJ, 8192, .inr (.inl mt))), (b5, .inl (cJ, 8192, .inr (.inl mw))), (b6, .inl (cJ, 16, .inr (.inl nv))), (b7, .inl (cJ, 16, .inr (.inl dl))), (b8, .inl (cJ, 8208, .inr (.inl rt))), (b9, .inl (cJ, 8208, .inr (.inl rv))), (b10, .inl (cZ, 8208, .inl (fun j => bI (mk j))))] := hD
  refine lv_ldc2 (v := (-1)) hx hb hown (hall _ kw_422) dX1_next_5 ?_
  refine lv_lstore_n (lv' := [(1, .long (-1)), (0, .ref y)]) hx hb dX1_next_8 rfl hl (by decide) rfl (fun ls hl => ?_)
  refine lv_iconst (v := 0) hx hb dX1_next_9 (by decide) ?_
  refine tp_i (y := nI 0) nI_0.symm ?_
  refine lv_istore_n (lv' := [(3, .int (nI 0)), (1, .long (-1)), (0, .ref y)]) hx hb dX1_next_10 rfl hl (by decide) rfl (fun ls hl => ?_)
  have hloop : ∀ (ss : List ZT) (k : Nat) (le : Int64) (H : Heap) (locs : List Loc) (ls : Array Slot), zs.drop k = ss → k ≤ zs.length → wnx ss le = wnx zs (-1) → va_P (dC, dI) vwCl [(y, .inr (1, [.int (nI 0), .int (nI nD), .int (nI nR), .ref b1, .ref b2, .long now, .ref b3, .ref b4, .ref b5, .int (nI zs.length), .ref b6, .ref b7, .int (nI el), .ref b8, .ref b9, .ref b10])), (b1, .inl (cJ, 512, .inr (.inl vs))), (b2, .inl (cZ, 512, .inl (fun j => bI (ac j)))), (b3, .inl (cI, 8192, .inl (fun j => nI (o j)))), (b4, .inl (cJ, 8192, .inr (.inl mt))), (b5, .inl (cJ, 8192, .inr (.inl mw))), (b6, .inl (cJ, 16, .inr (.inl nv))), (b7, .inl (cJ, 16, .inr (.inl dl))), (b8, .inl (cJ, 8208, .inr (.inl rt))), (b9, .inl (cJ, 8208, .inr (.inl rv))), (b10, .inl (cZ, 8208, .inl (fun j => bI (mk j))))] H → va_D A [(y, .inr (1, [.int (nI 0), .int (nI nD), .int (nI nR), .ref b1, .ref b2, .long now, .ref b3, .ref b4, .ref b5, .int (nI zs.length), .ref b6, .ref b7, .int (nI el), .ref b8, .ref b9, .ref b10])), (b1, .inl (cJ, 512, .inr (.inl vs))), (b2, .inl (cZ, 512, .inl (fun j => bI (ac j)))), (b3, .inl (cI, 8192, .inl (fun j => nI (o j)))), (b4, .inl (cJ, 8192, .inr (.inl mt))), (b5, .inl (cJ, 8192, .inr (.inl mw))), (b6, .inl (cJ, 16, .inr (.inl nv))), (b7, .inl (cJ, 16, .inr (.inl dl))), (b8, .inl (cJ, 8208, .inr (.inl rt))), (b9, .inl (cJ, 8208, .inr (.inl rv))), (b10, .inl (cZ, 8208, .inl (fun j => bI (mk j))))] → va_S A s.heap H locs → lv_has ls 4 [(0, .ref y), (1, .long le), (3, .int (nI k))] → W p l e (headSpec wsX1_next ({ frames := 0, cells := 0, slots := 0, locals := 0 })).room s m (([.ref y] : List Value).toArray) below meth c H locs 0 0 (MQ below (va_Ql (fun (v : Int64) (_ : Unit) => v = wnx zs (-1)) (fun _ t9 => va_P (dC, dI) vwCl (wm y b1 b2 b3 b4 b5 b6 b7 b8 b9 b10 cI cJ cZ 0 nD nR vs ac now o mt mw zs.length nv dl el rt rv mk) t9.heap ∧ va_K (dC, dI) vwCl [(cI, .int), (cJ, .long), (cZ, .boolean)] t9 ∧ va_D A (wm y b1 b2 b3 b4 b5 b6 b7 b8 b9 b10 cI cJ cZ 0 nD nR vs ac now o mt mw zs.length nv dl el rt rv mk)) A) (([.ref y] : List Value).toArray) s 0 0 A) (F0 m 11 ls []) := by
    intro ss
    induction ss with
    | nil =>
      intro k le H locs ls hss hkl hw hP hD hS hl
      have hk := wz_nil hss
      refine lv_iload_n hx hb dX1_next_11 rfl (lv_at hl 2 rfl) ?_
      refine lv_aload_n hx hb dX1_next_12 rfl (lv_at hl 0 rfl) ?_
      refine va_get (D := (dC, dI)) (ci := 1) (v := .int (nI zs.length)) (C := RX1) (T := TX1) (N := 16) hx hb hall inX1 hown hK hP 0 rfl rfl 9 (by decide) (hall _ kw_332) (fun _ h9 => h9) rfl dX1_next_13 ?_
      refine xc_ge (tgt := 55) hx hb (by omega) (by omega) dX1_next_16 (by decide) (fun c_1 => ?_) (fun c_1 => ?_)
      · refine lv_lload_n hx hb dX1_next_55 rfl (lv_at hl 1 rfl) ?_
        exact W.lret (v := le) hx hb hr (fun t9 ht hW => ⟨⟨le, (), rfl, hw, by rw [ht]; exact hP, va_K.moved hW.alike hK, hD⟩, hS.F ht⟩) hS.2.2 dX1_next_56
      · exact absurd c_1 (by omega)
    | cons z tl ih =>
      intro k le H locs ls hss hkl hw hP hD hS hl
      obtain ⟨hk, hzk, htl⟩ := wz_drop hss
      obtain ⟨ez1, ez2, ez3⟩ := hZ k z hzk
      refine lv_iload_n hx hb dX1_next_11 rfl (lv_at hl 2 rfl) ?_
      refine lv_aload_n hx hb dX1_next_12 rfl (lv_at hl 0 rfl) ?_
      refine va_get (D := (dC, dI)) (ci := 1) (v := .int (nI zs.length)) (C := RX1) (T := TX1) (N := 16) hx hb hall inX1 hown hK hP 0 rfl rfl 9 (by decide) (hall _ kw_332) (fun _ h9 => h9) rfl dX1_next_13 ?_
      refine xc_ge (tgt := 55) hx hb (by omega) (by omega) dX1_next_16 (by decide) (fun c_2 => ?_) (fun c_2 => ?_)
      · exact absurd c_2 (by omega)
      · refine lv_lload_n hx hb dX1_next_19 rfl (lv_at hl 1 rfl) ?_
        refine lv_ldc2 (v := (-1)) hx hb hown (hall _ kw_422) dX1_next_20 ?_
        refine xl_eq (tgt := 38) hx hb dX1_next_23 dX1_next_24 (by decide) (fun c_3 => ?_) (fun c_3 => ?_)
        · have c_A := c_3
          refine lv_aload_n hx hb dX1_next_38 rfl (lv_at hl 0 rfl) ?_
          refine va_get (D := (dC, dI)) (ci := 1) (v := .ref b4) (C := RX1) (T := TX1) (N := 16) hx hb hall inX1 hown hK hP 0 rfl rfl 7 (by decide) (hall _ kw_330) (fun _ h9 => h9) rfl dX1_next_39 ?_
          refine lv_iload_n hx hb dX1_next_42 rfl (lv_at hl 2 rfl) ?_
          refine xa_lald hx hb hK hP 4 1 rfl rfl (by omega) (by omega) dX1_next_43 ?_
          refine lv_goto (tgt := 48) hx hb dX1_next_44 (by decide) ?_
          refine lv_lstore_n (lv' := [(1, .long (mt k)), (0, .ref y), (3, .int (nI k))]) hx hb dX1_next_48 rfl hl (by decide) rfl (fun ls hl => ?_)
          refine lv_iinc (v := nI (k + 1)) (lv' := [(3, .int (nI (k + 1))), (1, .long (mt k)), (0, .ref y)]) hx hb dX1_next_49 hl (k := 2) rfl (nI_1 k) (by decide) rfl (fun ls hl => ?_)
          refine lv_goto (tgt := 11) hx hb dX1_next_52 (by decide) ?_
          exact ih (k + 1) (mt k) H locs ls htl (by omega) ((congrArg (wnx tl) (((if_pos (by first | exact Or.inl c_A | exact Or.inr (ez2 ▸ Int64.not_le.mp c_B))).trans ez2.symm).symm)).trans hw) hP hD hS (lv_sub hl [2, 1, 0] rfl)
        · have c_A := c_3
          refine lv_aload_n hx hb dX1_next_27 rfl (lv_at hl 0 rfl) ?_
          refine va_get (D := (dC, dI)) (ci := 1) (v := .ref b4) (C := RX1) (T := TX1) (N := 16) hx hb hall inX1 hown hK hP 0 rfl rfl 7 (by decide) (hall _ kw_330) (fun _ h9 => h9) rfl dX1_next_28 ?_
          refine lv_iload_n hx hb dX1_next_31 rfl (lv_at hl 2 rfl) ?_
          refine xa_lald hx hb hK hP 4 1 rfl rfl (by omega) (by omega) dX1_next_32 ?_
          refine lv_lload_n hx hb dX1_next_33 rfl (lv_at hl 1 rfl) ?_
          refine xl_ge (tgt := 47) hx hb dX1_next_34 dX1_next_35 (by decide) (fun c_4 => ?_) (fun c_4 => ?_)
          · have c_B := c_4
            refine lv_lload_n hx hb dX1_next_47 rfl (lv_at hl 1 rfl) ?_
            refine lv_lstore_n (lv' := [(1, .long le), (0, .ref y), (3, .int (nI k))]) hx hb dX1_next_48 rfl hl (by decide) rfl (fun ls hl => ?_)
            refine lv_iinc (v := nI (k + 1)) (lv' := [(3, .int (nI (k + 1))), (1, .long le), (0, .ref y)]) hx hb dX1_next_49 hl (k := 2) rfl (nI_1 k) (by decide) rfl (fun ls hl => ?_)
            refine lv_goto (tgt := 11) hx hb dX1_next_52 (by decide) ?_
            exact ih (k + 1) le H locs ls htl (by omega) ((congrArg (wnx tl) ((if_neg (fun q => q.elim c_A (fun q => absurd q (Int64.not_lt.mpr (ez2 ▸ c_B))))).symm)).trans hw) hP hD hS (lv_sub hl [2, 1, 0] rfl)
          · have c_B := c_4
            refine lv_aload_n hx hb dX1_next_38 rfl (lv_at hl 0 rfl) ?_
            refine va_get (D := (dC, dI)) (ci := 1) (v := .ref b4) (C := RX1) (T := TX1) (N := 16) hx hb hall inX1 hown hK hP 0 rfl rfl 7 (by decide) (hall _ kw_330) (fun _ h9 => h9) rfl dX1_next_39 ?_
            refine lv_iload_n hx hb dX1_next_42 rfl (lv_at hl 2 rfl) ?_
            refine xa_lald hx hb hK hP 4 1 rfl rfl (by omega) (by omega) dX1_next_43 ?_
            refine lv_goto (tgt := 48) hx hb dX1_next_44 (by decide) ?_
            refine lv_lstore_n (lv' := [(1, .long (mt k)), (0, .ref y), (3, .int (nI k))]) hx hb dX1_next_48 rfl hl (by decide) rfl (fun ls hl => ?_)
            refine lv_iinc (v := nI (k + 1)) (lv' := [(3, .int (nI (k + 1))), (1, .long (mt k)), (0, .ref y)]) hx hb dX1_next_49 hl (k := 2) rfl (nI_1 k) (by decide) rfl (fun ls hl => ?_)
            refine lv_goto (tgt := 11) hx hb dX1_next_52 (by decide) ?_
            exact ih (k + 1) (mt k) H locs ls htl (by omega) ((congrArg (wnx tl) (((if_pos (by first | exact Or.inl c_A | exact Or.inr (ez2 ▸ Int64.not_le.mp c_B))).trans ez2.symm).symm)).trans hw) hP hD hS (lv_sub hl [2, 1, 0] rfl)
  exact hloop zs 0 (-1) H locs ls rfl (by omega) rfl hP hD hS (lv_sub hl [2, 1, 0] rfl)
set_option maxHeartbeats 4000000 in
set_option maxRecDepth 100000 in
theorem m_find (l : Launch) (dC : Nat → ClassId) (dI : Nat → Nat → Nat) (y b1 b2 b3 b4 b5 b6 b7 b8 b9 b10 : Nat) (cI cJ cZ : ClassId) (th nD nR : Nat) (vs : Nat → Int64) (ac : Nat → Bool) (now : Int64) (o : Nat → Nat) (mt mw : Nat → Int64) (nv dl : Nat → Int64) (el : Nat) (rt rv : Nat → Int64) (mk : Nat → Bool) (zs : List ZT) (hI : wm_I nD nR el zs) (hZ : wz zs o mt mw) (d : Nat) (hd : d < nD) (q : Nat) (hq : q < 2 ^ 31) : Met l yX1_find wsX1_find ({ frames := 0, cells := 0, slots := 0, locals := 0 }) (va_Pc [.ref y, .int (nI d), .int (nI q)] (fun U => va_P (dC, dI) vwCl (wm y b1 b2 b3 b4 b5 b6 b7 b8 b9 b10 cI cJ cZ th nD nR vs ac now o mt mw zs.length nv dl el rt rv mk) U.heap ∧ va_K (dC, dI) vwCl [(cI, .int), (cJ, .long), (cZ, .boolean)] U)) (vp_Si (fun v => v = oI (wfi d q zs 0 0))) 0 0 (fun _ => False) := by
  refine Met.ofW (cc := cX1_find) (maxL := 5) (ret := (some .int)) (by decide) rfl ?_
  intro p e s m args below meth c s₁ B hml hv
  obtain ⟨rfl, hP, hK⟩ := hv
  have hx := B.exec
  have hb := B.bytes
  have hr := B.returns
  have hts := atoms_spec (ws := wsX1_find) B.pre
  have hown : s.vm.findClass RX1 = some m.cls := findClass_of_methodNamed B.named
  have hlocks := B.notSynchronized
  have hall := fun (w : Cond) (h : w ∈ allw) => hts w (List.mem_cons_of_mem _ h)
  have hl := lv_entry ([.ref y, .int (nI d), .int (nI q)]) (n := 5) (Nat.le_of_ble_eq_true rfl)
  rw [lg_entry_eq]
  generalize (lg_sl ([.ref y, .int (nI d), .int (nI q)]) ++ List.replicate (5 - (lg_sl ([.ref y, .int (nI d), .int (nI q)])).length) Slot.unset).toArray = ls at hl ⊢
  have hl : lv_has ls 5 [(0, .ref y), (1, .int (nI d)), (2, .int (nI q))] := hl
  obtain ⟨hnD1, hnD, hnR1, hnR, hzR, hel, how⟩ := hI
  refine lv_iconst (v := 0) hx hb dX1_find_0 (by decide) ?_
  refine tp_i (y := nI 0) nI_0.symm ?_
  refine lv_istore_n (lv' := [(3, .int (nI 0)), (0, .ref y), (1, .int (nI d)), (2, .int (nI q))]) hx hb dX1_find_1 rfl hl (by decide) rfl (fun ls hl => ?_)
  refine lv_iconst (v := 0) hx hb dX1_find_2 (by decide) ?_
  refine tp_i (y := nI 0) nI_0.symm ?_
  refine lv_istore (lv' := [(4, .int (nI 0)), (3, .int (nI 0)), (0, .ref y), (1, .int (nI d)), (2, .int (nI q))]) hx hb dX1_find_3 hl (by decide) rfl (fun ls hl => ?_)
  have hloop : ∀ (ss : List ZT) (k : Nat) (c0 : Nat) (ls : Array Slot), zs.drop k = ss → k ≤ zs.length → c0 ≤ k → wfi d q ss k c0 = wfi d q zs 0 0 → lv_has ls 5 [(0, .ref y), (1, .int (nI d)), (2, .int (nI q)), (3, .int (nI c0)), (4, .int (nI k))] → W p l e (headSpec wsX1_find ({ frames := 0, cells := 0, slots := 0, locals := 0 })).room s m (([.ref y, .int (nI d), .int (nI q)] : List Value).toArray) below meth c s.heap [] 0 0 (MQ below (vp_Si (fun v => v = oI (wfi d q zs 0 0))) (([.ref y, .int (nI d), .int (nI q)] : List Value).toArray) s 0 0 (fun _ => False)) (F0 m 5 ls []) := by
    intro ss
    induction ss with
    | nil =>
      intro k c0 ls hss hkl hck hw hl
      have hk := wz_nil hss
      refine lv_iload hx hb dX1_find_5 (lv_at hl 4 rfl) ?_
      refine lv_aload_n hx hb dX1_find_7 rfl (lv_at hl 0 rfl) ?_
      refine va_get (D := (dC, dI)) (ci := 1) (v := .int (nI zs.length)) (C := RX1) (T := TX1) (N := 16) hx hb hall inX1 hown hK hP 0 rfl rfl 9 (by decide) (hall _ kw_332) (fun _ h9 => h9) rfl dX1_find_8 ?_
      refine xc_ge (tgt := 42) hx hb (by omega) (by omega) dX1_find_11 (by decide) (fun c_1 => ?_) (fun c_1 => ?_)
      · refine lv_iconst (v := (-1)) hx hb dX1_find_42 (by decide) ?_
        exact W.iret (v := (-1)) hx hb hr (fun t9 ht hW => ⟨(-1), rfl, by rw [← hw]; rfl, ht⟩) (fun q hq => nomatch hq) dX1_find_43
      · exact absurd c_1 (by omega)
    | cons z tl ih =>
      intro k c0 ls hss hkl hck hw hl
      obtain ⟨hk, hzk, htl⟩ := wz_drop hss
      obtain ⟨ez1, ez2, ez3⟩ := hZ k z hzk
      have hod : o k < 512 := by have := how z (List.mem_of_getElem? hzk); omega
      refine lv_iload hx hb dX1_find_5 (lv_at hl 4 rfl) ?_
      refine lv_aload_n hx hb dX1_find_7 rfl (lv_at hl 0 rfl) ?_
      refine va_get (D := (dC, dI)) (ci := 1) (v := .int (nI zs.length)) (C := RX1) (T := TX1) (N := 16) hx hb hall inX1 hown hK hP 0 rfl rfl 9 (by decide) (hall _ kw_332) (fun _ h9 => h9) rfl dX1_find_8 ?_
      refine xc_ge (tgt := 42) hx hb (by omega) (by omega) dX1_find_11 (by decide) (fun c_2 => ?_) (fun c_2 => ?_)
      · exact absurd c_2 (by omega)
      · refine lv_aload_n hx hb dX1_find_14 rfl (lv_at hl 0 rfl) ?_
        refine va_get (D := (dC, dI)) (ci := 1) (v := .ref b3) (C := RX1) (T := TX1) (N := 16) hx hb hall inX1 hown hK hP 0 rfl rfl 6 (by decide) (hall _ kw_329) (fun _ h9 => h9) rfl dX1_find_15 ?_
        refine lv_iload hx hb dX1_find_18 (lv_at hl 4 rfl) ?_
        refine xa_iald hx hb hK hP 3 0 rfl rfl (by omega) (by omega) dX1_find_20 ?_
        refine lv_iload_n hx hb dX1_find_21 rfl (lv_at hl 1 rfl) ?_
        refine xc_ne (tgt := 36) hx hb (by omega) (by omega) dX1_find_22 (by decide) (fun c_3 => ?_) (fun c_3 => ?_)
        · have c_A := c_3
          refine lv_iinc (v := nI (k + 1)) (lv' := [(4, .int (nI (k + 1))), (0, .ref y), (1, .int (nI d)), (2, .int (nI q)), (3, .int (nI c0))]) hx hb dX1_find_36 hl (k := 4) rfl (nI_1 k) (by decide) rfl (fun ls hl => ?_)
          refine lv_goto (tgt := 5) hx hb dX1_find_39 (by decide) ?_
          exact ih (k + 1) (c0) ls htl (by omega) (by omega) (by rw [← hw]; show _ = if z.1 = d then _ else _; rw [if_neg (fun q => c_A (ez1.trans q))]) (lv_sub hl [1, 2, 3, 4, 0] rfl)
        · have c_A := c_3
          refine lv_iload_n hx hb dX1_find_25 rfl (lv_at hl 3 rfl) ?_
          refine lv_iload_n hx hb dX1_find_26 rfl (lv_at hl 2 rfl) ?_
          refine xc_ne (tgt := 33) hx hb (by omega) (by omega) dX1_find_27 (by decide) (fun c_4 => ?_) (fun c_4 => ?_)
          · have c_B := c_4
            refine lv_iinc (v := nI (c0 + 1)) (lv' := [(3, .int (nI (c0 + 1))), (0, .ref y), (1, .int (nI d)), (2, .int (nI q)), (4, .int (nI k))]) hx hb dX1_find_33 hl (k := 3) rfl (nI_1 c0) (by decide) rfl (fun ls hl => ?_)
            refine lv_iinc (v := nI (k + 1)) (lv' := [(4, .int (nI (k + 1))), (3, .int (nI (c0 + 1))), (0, .ref y), (1, .int (nI d)), (2, .int (nI q))]) hx hb dX1_find_36 hl (k := 4) rfl (nI_1 k) (by decide) rfl (fun ls hl => ?_)
            refine lv_goto (tgt := 5) hx hb dX1_find_39 (by decide) ?_
            exact ih (k + 1) (c0 + 1) ls htl (by omega) (by omega) (by rw [← hw]; show _ = if z.1 = d then _ else _; rw [if_pos (ez1.symm.trans c_A), if_neg c_B]) (lv_sub hl [2, 3, 4, 1, 0] rfl)
          · have c_B := c_4
            refine lv_iload hx hb dX1_find_30 (lv_at hl 4 rfl) ?_
            exact W.iret (v := nI k) hx hb hr (fun t9 ht hW => ⟨nI k, rfl, by rw [← hw]; show _ = oI (if z.1 = d then _ else _); rw [if_pos (ez1.symm.trans c_A), if_pos c_B]; rfl, ht⟩) (fun q hq => nomatch hq) dX1_find_32
  exact hloop zs 0 0 ls rfl (by omega) (by omega) rfl (lv_sub hl [2, 3, 4, 1, 0] rfl)
set_option maxHeartbeats 4000000 in
set_option maxRecDepth 100000 in
theorem m_at1 (l : Launch) (dC : Nat → ClassId) (dI : Nat → Nat → Nat) (y b1 b2 b3 b4 b5 b6 b7 b8 b9 b10 : Nat) (cI cJ cZ : ClassId) (th nD nR : Nat) (vs : Nat → Int64) (ac : Nat → Bool) (now : Int64) (o : Nat → Nat) (mt mw : Nat → Int64) (nv dl : Nat → Int64) (el : Nat) (rt rv : Nat → Int64) (mk : Nat → Bool) (zs : List ZT) (sz : Nat) (i : Int32) (hbad : i < 0 ∨ nI nD ≤ i) (j z : Int32) : Met l yX1_at wsX1_at ({ frames := 1, cells := 0, slots := 0, locals := 24 }) (va_Pc [.ref y, .int i, .int j, .int z] (fun U => U.heap.size = sz ∧ va_P (dC, dI) vwCl (wm y b1 b2 b3 b4 b5 b6 b7 b8 b9 b10 cI cJ cZ th nD nR vs ac now o mt mw zs.length nv dl el rt rv mk) U.heap ∧ va_K (dC, dI) vwCl [(cI, .int), (cJ, .long), (cZ, .boolean)] U ∧ va_D (fun _ => True) (wm y b1 b2 b3 b4 b5 b6 b7 b8 b9 b10 cI cJ cZ th nD nR vs ac now o mt mw zs.length nv dl el rt rv mk))) (va_Ql (fun (v : Int64) (_ : Unit) => True) (fun _ t9 => va_P (dC, dI) vwCl (wm y b1 b2 b3 b4 b5 b6 b7 b8 b9 b10 cI cJ cZ 1 nD nR vs ac now o mt mw zs.length nv dl el rt rv mk) t9.heap ∧ va_K (dC, dI) vwCl [(cI, .int), (cJ, .long), (cZ, .boolean)] t9 ∧ va_D (va_A (wm y b1 b2 b3 b4 b5 b6 b7 b8 b9 b10 cI cJ cZ th nD nR vs ac now o mt mw zs.length nv dl el rt rv mk) sz) (wm y b1 b2 b3 b4 b5 b6 b7 b8 b9 b10 cI cJ cZ 1 nD nR vs ac now o mt mw zs.length nv dl el rt rv mk)) (va_A (wm y b1 b2 b3 b4 b5 b6 b7 b8 b9 b10 cI cJ cZ th nD nR vs ac now o mt mw zs.length nv dl el rt rv mk) sz)) 0 0 (va_A (wm y b1 b2 b3 b4 b5 b6 b7 b8 b9 b10 cI cJ cZ th nD nR vs ac now o mt mw zs.length nv dl el rt rv mk) sz) := by
  refine Met.ofW (cc := cX1_at) (maxL := 5) (ret := (some .long)) (by decide) rfl ?_
  intro p e s m args below meth c s₁ B hml hv
  obtain ⟨rfl, hsz, hP, hK, hD0⟩ := hv
  subst hsz
  have hD := hD0.self (sz := s.heap.size)
  generalize hAe : va_A (wm y b1 b2 b3 b4 b5 b6 b7 b8 b9 b10 cI cJ cZ th nD nR vs ac now o mt mw zs.length nv dl el rt rv mk) s.heap.size = A at hD ⊢
  have hA : ∀ q : Nat, s.heap.size ≤ q → A q := fun q h => by rw [← hAe]; exact Or.inr h
  have hS : va_S A s.heap s.heap [] := va_S.rf
  have hx := B.exec
  have hb := B.bytes
  have hr := B.returns
  have hts := atoms_spec (ws := wsX1_at) B.pre
  have hown : s.vm.findClass RX1 = some m.cls := findClass_of_methodNamed B.named
  have hlocks := B.notSynchronized
  have hall := fun (w : Cond) (h : w ∈ allw) => hts w (List.mem_cons_of_mem _ h)
  have hl := lv_entry ([.ref y, .int i, .int j, .int z]) (n := 5) (Nat.le_of_ble_eq_true rfl)
  rw [lg_entry_eq]
  generalize (lg_sl ([.ref y, .int i, .int j, .int z]) ++ List.replicate (5 - (lg_sl ([.ref y, .int i, .int j, .int z])).length) Slot.unset).toArray = ls at hl ⊢
  have hl : lv_has ls 5 [(0, .ref y), (1, .int i), (2, .int j), (3, .int z)] := hl
  refine lv_aload_n hx hb dX1_at_0 rfl (lv_at hl 0 rfl) ?_
  refine lv_iload_n hx hb dX1_at_1 rfl (lv_at hl 1 rfl) ?_
  refine vp_callSi (W.runV (As := [.int i]) (rest := []) ⟨hx, hb, hml, hown, hall⟩ (m_none1 l dC dI y b1 b2 b3 b4 b5 b6 b7 b8 b9 b10 cI cJ cZ th nD nR vs ac now o mt mw nv dl el rt rv mk zs i hbad) (cwV 1 hall gX1_60 rfl rfl rfl (by decide +kernel) ⟨Nat.le_of_ble_eq_true rfl, Nat.le_of_ble_eq_true rfl⟩) ⟨xr_blind, va_recv hK hP (ci := 1) (q0 := 0) rfl rfl, fun U hU hW => ⟨rfl, by rw [hU]; exact hP, va_K.moved hW.alike hK⟩⟩ rfl rfl hl.1 rfl (lv_room (Nat.le_of_ble_eq_true rfl)) dX1_at_2 ⟨by first | exact Nat.zero_le _ | omega, by first | exact Nat.zero_le _ | omega⟩) (fun v_1 hv_2 => ?_)
  subst hv_2
  refine lv_if_ne (tgt := 12) hx hb dX1_at_5 (by decide) (fun c_3 => ?_) (fun c_3 => ?_)
  · refine lv_iconst (v := (-1)) hx hb dX1_at_12 (by decide) ?_
    refine lv_goto (tgt := 22) hx hb dX1_at_13 (by decide) ?_
    refine lv_istore (lv' := [(4, .int (-1)), (0, .ref y), (1, .int i), (2, .int j), (3, .int z)]) hx hb dX1_at_22 hl (by decide) rfl (fun ls hl => ?_)
    refine lv_aload_n hx hb dX1_at_24 rfl (lv_at hl 1 rfl) ?_
    refine lv_iload hx hb dX1_at_25 (lv_at hl 0 rfl) ?_
    refine lv_iconst (v := (-1)) hx hb dX1_at_27 (by decide) ?_
    refine lv_icmp_ne (tgt := 35) hx hb dX1_at_28 (by decide) (fun c_4 => ?_) (fun c_4 => ?_)
    · exact absurd rfl c_4
    · refine lv_iconst (v := 1) hx hb dX1_at_31 (by decide) ?_
      refine tp_i (y := nI 1) (by decide) ?_
      refine lv_goto (tgt := 36) hx hb dX1_at_32 (by decide) ?_
      refine va_put (D := (dC, dI)) (ci := 1) (v := .int (nI 1)) (ty := .int) (C := RX1) (T := TX1) (N := 16) hx hb hall inX1 tyX1 tyX1_ok nmX1 hown hK hP hD hS 0 rfl rfl 0 (by decide) (hall _ kw_323) (fun _ h9 => h9) rfl (by decide +kernel) rfl rfl (Nat.le_of_ble_eq_true rfl) dX1_at_36 (fun H locs hP hD hS => ?_)
      have hP : va_P (dC, dI) vwCl [(y, .inr (1, [.int (nI 1), .int (nI nD), .int (nI nR), .ref b1, .ref b2, .long now, .ref b3, .ref b4, .ref b5, .int (nI zs.length), .ref b6, .ref b7, .int (nI el), .ref b8, .ref b9, .ref b10])), (b1, .inl (cJ, 512, .inr (.inl vs))), (b2, .inl (cZ, 512, .inl (fun j => bI (ac j)))), (b3, .inl (cI, 8192, .inl (fun j => nI (o j)))), (b4, .inl (cJ, 8192, .inr (.inl mt))), (b5, .inl (cJ, 8192, .inr (.inl mw))), (b6, .inl (cJ, 16, .inr (.inl nv))), (b7, .inl (cJ, 16, .inr (.inl dl))), (b8, .inl (cJ, 8208, .inr (.inl rt))), (b9, .inl (cJ, 8208, .inr (.inl rv))), (b10, .inl (cZ, 8208, .inl (fun j => bI (mk j))))] H := hP
      have hD : va_D A [(y, .inr (1, [.int (nI 1), .int (nI nD), .int (nI nR), .ref b1, .ref b2, .long now, .ref b3, .ref b4, .ref b5, .int (nI zs.length), .ref b6, .ref b7, .int (nI el), .ref b8, .ref b9, .ref b10])), (b1, .inl (cJ, 512, .inr (.inl vs))), (b2, .inl (cZ, 512, .inl (fun j => bI (ac j)))), (b3, .inl (cI, 8192, .inl (fun j => nI (o j)))), (b4, .inl (cJ, 8192, .inr (.inl mt))), (b5, .inl (cJ, 8192, .inr (.inl mw))), (b6, .inl (cJ, 16, .inr (.inl nv))), (b7, .inl (cJ, 16, .inr (.inl dl))), (b8, .inl (cJ, 8208, .inr (.inl rt))), (b9, .inl (cJ, 8208, .inr (.inl rv))), (b10, .inl (cZ, 8208, .inl (fun j => bI (mk j))))] := hD
      refine lv_aload_n hx hb dX1_at_39 rfl (lv_at hl 1 rfl) ?_
      refine va_get (D := (dC, dI)) (ci := 1) (v := .int (nI 1)) (C := RX1) (T := TX1) (N := 16) hx hb hall inX1 hown hK hP 0 rfl rfl 0 (by decide) (hall _ kw_323) (fun _ h9 => h9) rfl dX1_at_40 ?_
      refine xz_le (tgt := 50) hx hb (by omega) dX1_at_43 (by decide) (fun c_5 => ?_) (fun c_5 => ?_)
      · exact absurd c_5 (by omega)
      · refine lv_lconst (v := 0) hx hb dX1_at_46 (by decide) ?_
        refine lv_goto (tgt := 71) hx hb dX1_at_47 (by decide) ?_
        exact W.lret (v := 0) hx hb hr (fun t9 ht hW => ⟨⟨0, (), rfl, trivial, by rw [ht]; exact hP, va_K.moved hW.alike hK, hD⟩, hS.F ht⟩) hS.2.2 dX1_at_71
  · exact absurd c_3 (by decide)
set_option maxHeartbeats 4000000 in
set_option maxRecDepth 100000 in
theorem m_at2 (l : Launch) (dC : Nat → ClassId) (dI : Nat → Nat → Nat) (y b1 b2 b3 b4 b5 b6 b7 b8 b9 b10 : Nat) (cI cJ cZ : ClassId) (th nD nR : Nat) (vs : Nat → Int64) (ac : Nat → Bool) (now : Int64) (o : Nat → Nat) (mt mw : Nat → Int64) (nv dl : Nat → Int64) (el : Nat) (rt rv : Nat → Int64) (mk : Nat → Bool) (zs : List ZT) (sz : Nat) (hI : wm_I nD nR el zs) (hZ : wz zs o mt mw) (d : Nat) (hd : d < nD) (j z : Int32) (hj : j < 0) : Met l yX1_at wsX1_at ({ frames := 1, cells := 0, slots := 0, locals := 24 }) (va_Pc [.ref y, .int (nI d), .int j, .int z] (fun U => U.heap.size = sz ∧ va_P (dC, dI) vwCl (wm y b1 b2 b3 b4 b5 b6 b7 b8 b9 b10 cI cJ cZ th nD nR vs ac now o mt mw zs.length nv dl el rt rv mk) U.heap ∧ va_K (dC, dI) vwCl [(cI, .int), (cJ, .long), (cZ, .boolean)] U ∧ va_D (fun _ => True) (wm y b1 b2 b3 b4 b5 b6 b7 b8 b9 b10 cI cJ cZ th nD nR vs ac now o mt mw zs.length nv dl el rt rv mk))) (va_Ql (fun (v : Int64) (_ : Unit) => True) (fun _ t9 => va_P (dC, dI) vwCl (wm y b1 b2 b3 b4 b5 b6 b7 b8 b9 b10 cI cJ cZ 1 nD nR vs ac now o mt mw zs.length nv dl el rt rv mk) t9.heap ∧ va_K (dC, dI) vwCl [(cI, .int), (cJ, .long), (cZ, .boolean)] t9 ∧ va_D (va_A (wm y b1 b2 b3 b4 b5 b6 b7 b8 b9 b10 cI cJ cZ th nD nR vs ac now o mt mw zs.length nv dl el rt rv mk) sz) (wm y b1 b2 b3 b4 b5 b6 b7 b8 b9 b10 cI cJ cZ 1 nD nR vs ac now o mt mw zs.length nv dl el rt rv mk)) (va_A (wm y b1 b2 b3 b4 b5 b6 b7 b8 b9 b10 cI cJ cZ th nD nR vs ac now o mt mw zs.length nv dl el rt rv mk) sz)) 0 0 (va_A (wm y b1 b2 b3 b4 b5 b6 b7 b8 b9 b10 cI cJ cZ th nD nR vs ac now o mt mw zs.length nv dl el rt rv mk) sz) := by
  refine Met.ofW (cc := cX1_at) (maxL := 5) (ret := (some .long)) (by decide) rfl ?_
  intro p e s m args below meth c s₁ B hml hv
  obtain ⟨rfl, hsz, hP, hK, hD0⟩ := hv
  subst hsz
  have hD := hD0.self (sz := s.heap.size)
  generalize hAe : va_A (wm y b1 b2 b3 b4 b5 b6 b7 b8 b9 b10 cI cJ cZ th nD nR vs ac now o mt mw zs.length nv dl el rt rv mk) s.heap.size = A at hD ⊢
  have hA : ∀ q : Nat, s.heap.size ≤ q → A q := fun q h => by rw [← hAe]; exact Or.inr h
  have hS : va_S A s.heap s.heap [] := va_S.rf
  have hx := B.exec
  have hb := B.bytes
  have hr := B.returns
  have hts := atoms_spec (ws := wsX1_at) B.pre
  have hown : s.vm.findClass RX1 = some m.cls := findClass_of_methodNamed B.named
  have hlocks := B.notSynchronized
  have hall := fun (w : Cond) (h : w ∈ allw) => hts w (List.mem_cons_of_mem _ h)
  have hl := lv_entry ([.ref y, .int (nI d), .int j, .int z]) (n := 5) (Nat.le_of_ble_eq_true rfl)
  rw [lg_entry_eq]
  generalize (lg_sl ([.ref y, .int (nI d), .int j, .int z]) ++ List.replicate (5 - (lg_sl ([.ref y, .int (nI d), .int j, .int z])).length) Slot.unset).toArray = ls at hl ⊢
  have hl : lv_has ls 5 [(0, .ref y), (1, .int (nI d)), (2, .int j), (3, .int z)] := hl
  have hI0 := hI
  obtain ⟨hnD1, hnD, hnR1, hnR, hzR, hel, how⟩ := hI
  refine lv_aload_n hx hb dX1_at_0 rfl (lv_at hl 0 rfl) ?_
  refine lv_iload_n hx hb dX1_at_1 rfl (lv_at hl 1 rfl) ?_
  refine vp_callSi (W.runV (As := [.int (nI d)]) (rest := []) ⟨hx, hb, hml, hown, hall⟩ (m_none0 l dC dI y b1 b2 b3 b4 b5 b6 b7 b8 b9 b10 cI cJ cZ th nD nR vs ac now o mt mw nv dl el rt rv mk zs hI0 hZ d hd) (cwV 1 hall gX1_60 rfl rfl rfl (by decide +kernel) ⟨Nat.le_of_ble_eq_true rfl, Nat.le_of_ble_eq_true rfl⟩) ⟨xr_blind, va_recv hK hP (ci := 1) (q0 := 0) rfl rfl, fun U hU hW => ⟨rfl, by rw [hU]; exact hP, va_K.moved hW.alike hK⟩⟩ rfl rfl hl.1 rfl (lv_room (Nat.le_of_ble_eq_true rfl)) dX1_at_2 ⟨by first | exact Nat.zero_le _ | omega, by first | exact Nat.zero_le _ | omega⟩) (fun v_1 hv_2 => ?_)
  subst hv_2
  refine lv_if_ne (tgt := 12) hx hb dX1_at_5 (by decide) (fun c_3 => ?_) (fun c_3 => ?_)
  · exact absurd rfl c_3
  · refine lv_iload_n hx hb dX1_at_8 rfl (lv_at hl 2 rfl) ?_
    refine lv_if_ge (tgt := 16) hx hb dX1_at_9 (by decide) (fun c_4 => ?_) (fun c_4 => ?_)
    · exact absurd hj (Int32.not_lt.mpr c_4)
    · refine lv_iconst (v := (-1)) hx hb dX1_at_12 (by decide) ?_
      refine lv_goto (tgt := 22) hx hb dX1_at_13 (by decide) ?_
      refine lv_istore (lv' := [(4, .int (-1)), (0, .ref y), (1, .int (nI d)), (2, .int j), (3, .int z)]) hx hb dX1_at_22 hl (by decide) rfl (fun ls hl => ?_)
      refine lv_aload_n hx hb dX1_at_24 rfl (lv_at hl 1 rfl) ?_
      refine lv_iload hx hb dX1_at_25 (lv_at hl 0 rfl) ?_
      refine lv_iconst (v := (-1)) hx hb dX1_at_27 (by decide) ?_
      refine lv_icmp_ne (tgt := 35) hx hb dX1_at_28 (by decide) (fun c_5 => ?_) (fun c_5 => ?_)
      · exact absurd rfl c_5
      · refine lv_iconst (v := 1) hx hb dX1_at_31 (by decide) ?_
        refine tp_i (y := nI 1) (by decide) ?_
        refine lv_goto (tgt := 36) hx hb dX1_at_32 (by decide) ?_
        refine va_put (D := (dC, dI)) (ci := 1) (v := .int (nI 1)) (ty := .int) (C := RX1) (T := TX1) (N := 16) hx hb hall inX1 tyX1 tyX1_ok nmX1 hown hK hP hD hS 0 rfl rfl 0 (by decide) (hall _ kw_323) (fun _ h9 => h9) rfl (by decide +kernel) rfl rfl (Nat.le_of_ble_eq_true rfl) dX1_at_36 (fun H locs hP hD hS => ?_)
        have hP : va_P (dC, dI) vwCl [(y, .inr (1, [.int (nI 1), .int (nI nD), .int (nI nR), .ref b1, .ref b2, .long now, .ref b3, .ref b4, .ref b5, .int (nI zs.length), .ref b6, .ref b7, .int (nI el), .ref b8, .ref b9, .ref b10])), (b1, .inl (cJ, 512, .inr (.inl vs))), (b2, .inl (cZ, 512, .inl (fun j => bI (ac j)))), (b3, .inl (cI, 8192, .inl (fun j => nI (o j)))), (b4, .inl (cJ, 8192, .inr (.inl mt))), (b5, .inl (cJ, 8192, .inr (.inl mw))), (b6, .inl (cJ, 16, .inr (.inl nv))), (b7, .inl (cJ, 16, .inr (.inl dl))), (b8, .inl (cJ, 8208, .inr (.inl rt))), (b9, .inl (cJ, 8208, .inr (.inl rv))), (b10, .inl (cZ, 8208, .inl (fun j => bI (mk j))))] H := hP
        have hD : va_D A [(y, .inr (1, [.int (nI 1), .int (nI nD), .int (nI nR), .ref b1, .ref b2, .long now, .ref b3, .ref b4, .ref b5, .int (nI zs.length), .ref b6, .ref b7, .int (nI el), .ref b8, .ref b9, .ref b10])), (b1, .inl (cJ, 512, .inr (.inl vs))), (b2, .inl (cZ, 512, .inl (fun j => bI (ac j)))), (b3, .inl (cI, 8192, .inl (fun j => nI (o j)))), (b4, .inl (cJ, 8192, .inr (.inl mt))), (b5, .inl (cJ, 8192, .inr (.inl mw))), (b6, .inl (cJ, 16, .inr (.inl nv))), (b7, .inl (cJ, 16, .inr (.inl dl))), (b8, .inl (cJ, 8208, .inr (.inl rt))), (b9, .inl (cJ, 8208, .inr (.inl rv))), (b10, .inl (cZ, 8208, .inl (fun j => bI (mk j))))] := hD
        refine lv_aload_n hx hb dX1_at_39 rfl (lv_at hl 1 rfl) ?_
        refine va_get (D := (dC, dI)) (ci := 1) (v := .int (nI 1)) (C := RX1) (T := TX1) (N := 16) hx hb hall inX1 hown hK hP 0 rfl rfl 0 (by decide) (hall _ kw_323) (fun _ h9 => h9) rfl dX1_at_40 ?_
        refine xz_le (tgt := 50) hx hb (by omega) dX1_at_43 (by decide) (fun c_6 => ?_) (fun c_6 => ?_)
        · exact absurd c_6 (by omega)
        · refine lv_lconst (v := 0) hx hb dX1_at_46 (by decide) ?_
          refine lv_goto (tgt := 71) hx hb dX1_at_47 (by decide) ?_
          exact W.lret (v := 0) hx hb hr (fun t9 ht hW => ⟨⟨0, (), rfl, trivial, by rw [ht]; exact hP, va_K.moved hW.alike hK, hD⟩, hS.F ht⟩) hS.2.2 dX1_at_71
set_option maxHeartbeats 4000000 in
set_option maxRecDepth 100000 in
theorem m_at3 (l : Launch) (dC : Nat → ClassId) (dI : Nat → Nat → Nat) (y b1 b2 b3 b4 b5 b6 b7 b8 b9 b10 : Nat) (cI cJ cZ : ClassId) (th nD nR : Nat) (vs : Nat → Int64) (ac : Nat → Bool) (now : Int64) (o : Nat → Nat) (mt mw : Nat → Int64) (nv dl : Nat → Int64) (el : Nat) (rt rv : Nat → Int64) (mk : Nat → Bool) (zs : List ZT) (sz : Nat) (hI : wm_I nD nR el zs) (hZ : wz zs o mt mw) (d : Nat) (hd : d < nD) (q : Nat) (z : Int32) (hq : q < 2 ^ 31) (hf : wfi d q zs 0 0 = none) : Met l yX1_at wsX1_at ({ frames := 1, cells := 0, slots := 0, locals := 24 }) (va_Pc [.ref y, .int (nI d), .int (nI q), .int z] (fun U => U.heap.size = sz ∧ va_P (dC, dI) vwCl (wm y b1 b2 b3 b4 b5 b6 b7 b8 b9 b10 cI cJ cZ th nD nR vs ac now o mt mw zs.length nv dl el rt rv mk) U.heap ∧ va_K (dC, dI) vwCl [(cI, .int), (cJ, .long), (cZ, .boolean)] U ∧ va_D (fun _ => True) (wm y b1 b2 b3 b4 b5 b6 b7 b8 b9 b10 cI cJ cZ th nD nR vs ac now o mt mw zs.length nv dl el rt rv mk))) (va_Ql (fun (v : Int64) (_ : Unit) => True) (fun _ t9 => va_P (dC, dI) vwCl (wm y b1 b2 b3 b4 b5 b6 b7 b8 b9 b10 cI cJ cZ 1 nD nR vs ac now o mt mw zs.length nv dl el rt rv mk) t9.heap ∧ va_K (dC, dI) vwCl [(cI, .int), (cJ, .long), (cZ, .boolean)] t9 ∧ va_D (va_A (wm y b1 b2 b3 b4 b5 b6 b7 b8 b9 b10 cI cJ cZ th nD nR vs ac now o mt mw zs.length nv dl el rt rv mk) sz) (wm y b1 b2 b3 b4 b5 b6 b7 b8 b9 b10 cI cJ cZ 1 nD nR vs ac now o mt mw zs.length nv dl el rt rv mk)) (va_A (wm y b1 b2 b3 b4 b5 b6 b7 b8 b9 b10 cI cJ cZ th nD nR vs ac now o mt mw zs.length nv dl el rt rv mk) sz)) 0 0 (va_A (wm y b1 b2 b3 b4 b5 b6 b7 b8 b9 b10 cI cJ cZ th nD nR vs ac now o mt mw zs.length nv dl el rt rv mk) sz) := by
  refine Met.ofW (cc := cX1_at) (maxL := 5) (ret := (some .long)) (by decide) rfl ?_
  intro p e s m args below meth c s₁ B hml hv
  obtain ⟨rfl, hsz, hP, hK, hD0⟩ := hv
  subst hsz
  have hD := hD0.self (sz := s.heap.size)
  generalize hAe : va_A (wm y b1 b2 b3 b4 b5 b6 b7 b8 b9 b10 cI cJ cZ th nD nR vs ac now o mt mw zs.length nv dl el rt rv mk) s.heap.size = A at hD ⊢
  have hA : ∀ q : Nat, s.heap.size ≤ q → A q := fun q h => by rw [← hAe]; exact Or.inr h
  have hS : va_S A s.heap s.heap [] := va_S.rf
  have hx := B.exec
  have hb := B.bytes
  have hr := B.returns
  have hts := atoms_spec (ws := wsX1_at) B.pre
  have hown : s.vm.findClass RX1 = some m.cls := findClass_of_methodNamed B.named
  have hlocks := B.notSynchronized
  have hall := fun (w : Cond) (h : w ∈ allw) => hts w (List.mem_cons_of_mem _ h)
  have hl := lv_entry ([.ref y, .int (nI d), .int (nI q), .int z]) (n := 5) (Nat.le_of_ble_eq_true rfl)
  rw [lg_entry_eq]
  generalize (lg_sl ([.ref y, .int (nI d), .int (nI q), .int z]) ++ List.replicate (5 - (lg_sl ([.ref y, .int (nI d), .int (nI q), .int z])).length) Slot.unset).toArray = ls at hl ⊢
  have hl : lv_has ls 5 [(0, .ref y), (1, .int (nI d)), (2, .int (nI q)), (3, .int z)] := hl
  have hI0 := hI
  obtain ⟨hnD1, hnD, hnR1, hnR, hzR, hel, how⟩ := hI
  refine lv_aload_n hx hb dX1_at_0 rfl (lv_at hl 0 rfl) ?_
  refine lv_iload_n hx hb dX1_at_1 rfl (lv_at hl 1 rfl) ?_
  refine vp_callSi (W.runV (As := [.int (nI d)]) (rest := []) ⟨hx, hb, hml, hown, hall⟩ (m_none0 l dC dI y b1 b2 b3 b4 b5 b6 b7 b8 b9 b10 cI cJ cZ th nD nR vs ac now o mt mw nv dl el rt rv mk zs hI0 hZ d hd) (cwV 1 hall gX1_60 rfl rfl rfl (by decide +kernel) ⟨Nat.le_of_ble_eq_true rfl, Nat.le_of_ble_eq_true rfl⟩) ⟨xr_blind, va_recv hK hP (ci := 1) (q0 := 0) rfl rfl, fun U hU hW => ⟨rfl, by rw [hU]; exact hP, va_K.moved hW.alike hK⟩⟩ rfl rfl hl.1 rfl (lv_room (Nat.le_of_ble_eq_true rfl)) dX1_at_2 ⟨by first | exact Nat.zero_le _ | omega, by first | exact Nat.zero_le _ | omega⟩) (fun v_1 hv_2 => ?_)
  subst hv_2
  refine lv_if_ne (tgt := 12) hx hb dX1_at_5 (by decide) (fun c_3 => ?_) (fun c_3 => ?_)
  · exact absurd rfl c_3
  · refine lv_iload_n hx hb dX1_at_8 rfl (lv_at hl 2 rfl) ?_
    refine lv_if_ge (tgt := 16) hx hb dX1_at_9 (by decide) (fun c_4 => ?_) (fun c_4 => ?_)
    · refine lv_aload_n hx hb dX1_at_16 rfl (lv_at hl 0 rfl) ?_
      refine lv_iload_n hx hb dX1_at_17 rfl (lv_at hl 1 rfl) ?_
      refine lv_iload_n hx hb dX1_at_18 rfl (lv_at hl 2 rfl) ?_
      refine vp_callSi (W.runV (As := [.int (nI d), .int (nI q)]) (rest := []) ⟨hx, hb, hml, hown, hall⟩ (m_find l dC dI y b1 b2 b3 b4 b5 b6 b7 b8 b9 b10 cI cJ cZ th nD nR vs ac now o mt mw nv dl el rt rv mk zs hI0 hZ d hd q hq) (cwV 2 hall gX1_78 rfl rfl rfl (by decide +kernel) ⟨Nat.le_of_ble_eq_true rfl, Nat.le_of_ble_eq_true rfl⟩) ⟨xr_blind, va_recv hK hP (ci := 1) (q0 := 0) rfl rfl, fun U hU hW => ⟨rfl, by rw [hU]; exact hP, va_K.moved hW.alike hK⟩⟩ rfl rfl hl.1 rfl (lv_room (Nat.le_of_ble_eq_true rfl)) dX1_at_19 ⟨by first | exact Nat.zero_le _ | omega, by first | exact Nat.zero_le _ | omega⟩) (fun v_5 hv_6 => ?_)
      obtain rfl : v_5 = (-1) := hv_6.trans (by rw [hf]; rfl)
      refine lv_istore (lv' := [(4, .int (-1)), (0, .ref y), (1, .int (nI d)), (2, .int (nI q)), (3, .int z)]) hx hb dX1_at_22 hl (by decide) rfl (fun ls hl => ?_)
      refine lv_aload_n hx hb dX1_at_24 rfl (lv_at hl 1 rfl) ?_
      refine lv_iload hx hb dX1_at_25 (lv_at hl 0 rfl) ?_
      refine lv_iconst (v := (-1)) hx hb dX1_at_27 (by decide) ?_
      refine lv_icmp_ne (tgt := 35) hx hb dX1_at_28 (by decide) (fun c_7 => ?_) (fun c_7 => ?_)
      · exact absurd rfl c_7
      · refine lv_iconst (v := 1) hx hb dX1_at_31 (by decide) ?_
        refine tp_i (y := nI 1) (by decide) ?_
        refine lv_goto (tgt := 36) hx hb dX1_at_32 (by decide) ?_
        refine va_put (D := (dC, dI)) (ci := 1) (v := .int (nI 1)) (ty := .int) (C := RX1) (T := TX1) (N := 16) hx hb hall inX1 tyX1 tyX1_ok nmX1 hown hK hP hD hS 0 rfl rfl 0 (by decide) (hall _ kw_323) (fun _ h9 => h9) rfl (by decide +kernel) rfl rfl (Nat.le_of_ble_eq_true rfl) dX1_at_36 (fun H locs hP hD hS => ?_)
        have hP : va_P (dC, dI) vwCl [(y, .inr (1, [.int (nI 1), .int (nI nD), .int (nI nR), .ref b1, .ref b2, .long now, .ref b3, .ref b4, .ref b5, .int (nI zs.length), .ref b6, .ref b7, .int (nI el), .ref b8, .ref b9, .ref b10])), (b1, .inl (cJ, 512, .inr (.inl vs))), (b2, .inl (cZ, 512, .inl (fun j => bI (ac j)))), (b3, .inl (cI, 8192, .inl (fun j => nI (o j)))), (b4, .inl (cJ, 8192, .inr (.inl mt))), (b5, .inl (cJ, 8192, .inr (.inl mw))), (b6, .inl (cJ, 16, .inr (.inl nv))), (b7, .inl (cJ, 16, .inr (.inl dl))), (b8, .inl (cJ, 8208, .inr (.inl rt))), (b9, .inl (cJ, 8208, .inr (.inl rv))), (b10, .inl (cZ, 8208, .inl (fun j => bI (mk j))))] H := hP
        have hD : va_D A [(y, .inr (1, [.int (nI 1), .int (nI nD), .int (nI nR), .ref b1, .ref b2, .long now, .ref b3, .ref b4, .ref b5, .int (nI zs.length), .ref b6, .ref b7, .int (nI el), .ref b8, .ref b9, .ref b10])), (b1, .inl (cJ, 512, .inr (.inl vs))), (b2, .inl (cZ, 512, .inl (fun j => bI (ac j)))), (b3, .inl (cI, 8192, .inl (fun j => nI (o j)))), (b4, .inl (cJ, 8192, .inr (.inl mt))), (b5, .inl (cJ, 8192, .inr (.inl mw))), (b6, .inl (cJ, 16, .inr (.inl nv))), (b7, .inl (cJ, 16, .inr (.inl dl))), (b8, .inl (cJ, 8208, .inr (.inl rt))), (b9, .inl (cJ, 8208, .inr (.inl rv))), (b10, .inl (cZ, 8208, .inl (fun j => bI (mk j))))] := hD
        refine lv_aload_n hx hb dX1_at_39 rfl (lv_at hl 1 rfl) ?_
        refine va_get (D := (dC, dI)) (ci := 1) (v := .int (nI 1)) (C := RX1) (T := TX1) (N := 16) hx hb hall inX1 hown hK hP 0 rfl rfl 0 (by decide) (hall _ kw_323) (fun _ h9 => h9) rfl dX1_at_40 ?_
        refine xz_le (tgt := 50) hx hb (by omega) dX1_at_43 (by decide) (fun c_8 => ?_) (fun c_8 => ?_)
        · exact absurd c_8 (by omega)
        · refine lv_lconst (v := 0) hx hb dX1_at_46 (by decide) ?_
          refine lv_goto (tgt := 71) hx hb dX1_at_47 (by decide) ?_
          exact W.lret (v := 0) hx hb hr (fun t9 ht hW => ⟨⟨0, (), rfl, trivial, by rw [ht]; exact hP, va_K.moved hW.alike hK, hD⟩, hS.F ht⟩) hS.2.2 dX1_at_71
    · exact absurd (nI_pos' (by omega)) c_4
set_option maxHeartbeats 4000000 in
set_option maxRecDepth 100000 in
theorem m_at0 (l : Launch) (dC : Nat → ClassId) (dI : Nat → Nat → Nat) (y b1 b2 b3 b4 b5 b6 b7 b8 b9 b10 : Nat) (cI cJ cZ : ClassId) (th nD nR : Nat) (vs : Nat → Int64) (ac : Nat → Bool) (now : Int64) (o : Nat → Nat) (mt mw : Nat → Int64) (nv dl : Nat → Int64) (el : Nat) (rt rv : Nat → Int64) (mk : Nat → Bool) (zs : List ZT) (sz : Nat) (hI : wm_I nD nR el zs) (hZ : wz zs o mt mw) (d : Nat) (hd : d < nD) (q k0 : Nat) (z : Int32) (hq : q < 2 ^ 31) (hf : wfi d q zs 0 0 = some k0) (hk0 : k0 < zs.length) : Met l yX1_at wsX1_at ({ frames := 1, cells := 0, slots := 0, locals := 24 }) (va_Pc [.ref y, .int (nI d), .int (nI q), .int z] (fun U => U.heap.size = sz ∧ va_P (dC, dI) vwCl (wm y b1 b2 b3 b4 b5 b6 b7 b8 b9 b10 cI cJ cZ th nD nR vs ac now o mt mw zs.length nv dl el rt rv mk) U.heap ∧ va_K (dC, dI) vwCl [(cI, .int), (cJ, .long), (cZ, .boolean)] U ∧ va_D (fun _ => True) (wm y b1 b2 b3 b4 b5 b6 b7 b8 b9 b10 cI cJ cZ th nD nR vs ac now o mt mw zs.length nv dl el rt rv mk))) (va_Ql (fun (v : Int64) (_ : Unit) => v = if z = 0 then mw k0 else mt k0) (fun _ t9 => va_P (dC, dI) vwCl (wm y b1 b2 b3 b4 b5 b6 b7 b8 b9 b10 cI cJ cZ 0 nD nR vs ac now o mt mw zs.length nv dl el rt rv mk) t9.heap ∧ va_K (dC, dI) vwCl [(cI, .int), (cJ, .long), (cZ, .boolean)] t9 ∧ va_D (va_A (wm y b1 b2 b3 b4 b5 b6 b7 b8 b9 b10 cI cJ cZ th nD nR vs ac now o mt mw zs.length nv dl el rt rv mk) sz) (wm y b1 b2 b3 b4 b5 b6 b7 b8 b9 b10 cI cJ cZ 0 nD nR vs ac now o mt mw zs.length nv dl el rt rv mk)) (va_A (wm y b1 b2 b3 b4 b5 b6 b7 b8 b9 b10 cI cJ cZ th nD nR vs ac now o mt mw zs.length nv dl el rt rv mk) sz)) 0 0 (va_A (wm y b1 b2 b3 b4 b5 b6 b7 b8 b9 b10 cI cJ cZ th nD nR vs ac now o mt mw zs.length nv dl el rt rv mk) sz) := by
  refine Met.ofW (cc := cX1_at) (maxL := 5) (ret := (some .long)) (by decide) rfl ?_
  intro p e s m args below meth c s₁ B hml hv
  obtain ⟨rfl, hsz, hP, hK, hD0⟩ := hv
  subst hsz
  have hD := hD0.self (sz := s.heap.size)
  generalize hAe : va_A (wm y b1 b2 b3 b4 b5 b6 b7 b8 b9 b10 cI cJ cZ th nD nR vs ac now o mt mw zs.length nv dl el rt rv mk) s.heap.size = A at hD ⊢
  have hA : ∀ q : Nat, s.heap.size ≤ q → A q := fun q h => by rw [← hAe]; exact Or.inr h
  have hS : va_S A s.heap s.heap [] := va_S.rf
  have hx := B.exec
  have hb := B.bytes
  have hr := B.returns
  have hts := atoms_spec (ws := wsX1_at) B.pre
  have hown : s.vm.findClass RX1 = some m.cls := findClass_of_methodNamed B.named
  have hlocks := B.notSynchronized
  have hall := fun (w : Cond) (h : w ∈ allw) => hts w (List.mem_cons_of_mem _ h)
  have hl := lv_entry ([.ref y, .int (nI d), .int (nI q), .int z]) (n := 5) (Nat.le_of_ble_eq_true rfl)
  rw [lg_entry_eq]
  generalize (lg_sl ([.ref y, .int (nI d), .int (nI q), .int z]) ++ List.replicate (5 - (lg_sl ([.ref y, .int (nI d), .int (nI q), .int z])).length) Slot.unset).toArray = ls at hl ⊢
  have hl : lv_has ls 5 [(0, .ref y), (1, .int (nI d)), (2, .int (nI q)), (3, .int z)] := hl
  have hI0 := hI
  obtain ⟨hnD1, hnD, hnR1, hnR, hzR, hel, how⟩ := hI
  refine lv_aload_n hx hb dX1_at_0 rfl (lv_at hl 0 rfl) ?_
  refine lv_iload_n hx hb dX1_at_1 rfl (lv_at hl 1 rfl) ?_
  refine vp_callSi (W.runV (As := [.int (nI d)]) (rest := []) ⟨hx, hb, hml, hown, hall⟩ (m_none0 l dC dI y b1 b2 b3 b4 b5 b6 b7 b8 b9 b10 cI cJ cZ th nD nR vs ac now o mt mw nv dl el rt rv mk zs hI0 hZ d hd) (cwV 1 hall gX1_60 rfl rfl rfl (by decide +kernel) ⟨Nat.le_of_ble_eq_true rfl, Nat.le_of_ble_eq_true rfl⟩) ⟨xr_blind, va_recv hK hP (ci := 1) (q0 := 0) rfl rfl, fun U hU hW => ⟨rfl, by rw [hU]; exact hP, va_K.moved hW.alike hK⟩⟩ rfl rfl hl.1 rfl (lv_room (Nat.le_of_ble_eq_true rfl)) dX1_at_2 ⟨by first | exact Nat.zero_le _ | omega, by first | exact Nat.zero_le _ | omega⟩) (fun v_1 hv_2 => ?_)
  subst hv_2
  refine lv_if_ne (tgt := 12) hx hb dX1_at_5 (by decide) (fun c_3 => ?_) (fun c_3 => ?_)
  · exact absurd rfl c_3
  · refine lv_iload_n hx hb dX1_at_8 rfl (lv_at hl 2 rfl) ?_
    refine lv_if_ge (tgt := 16) hx hb dX1_at_9 (by decide) (fun c_4 => ?_) (fun c_4 => ?_)
    · refine lv_aload_n hx hb dX1_at_16 rfl (lv_at hl 0 rfl) ?_
      refine lv_iload_n hx hb dX1_at_17 rfl (lv_at hl 1 rfl) ?_
      refine lv_iload_n hx hb dX1_at_18 rfl (lv_at hl 2 rfl) ?_
      refine vp_callSi (W.runV (As := [.int (nI d), .int (nI q)]) (rest := []) ⟨hx, hb, hml, hown, hall⟩ (m_find l dC dI y b1 b2 b3 b4 b5 b6 b7 b8 b9 b10 cI cJ cZ th nD nR vs ac now o mt mw nv dl el rt rv mk zs hI0 hZ d hd q hq) (cwV 2 hall gX1_78 rfl rfl rfl (by decide +kernel) ⟨Nat.le_of_ble_eq_true rfl, Nat.le_of_ble_eq_true rfl⟩) ⟨xr_blind, va_recv hK hP (ci := 1) (q0 := 0) rfl rfl, fun U hU hW => ⟨rfl, by rw [hU]; exact hP, va_K.moved hW.alike hK⟩⟩ rfl rfl hl.1 rfl (lv_room (Nat.le_of_ble_eq_true rfl)) dX1_at_19 ⟨by first | exact Nat.zero_le _ | omega, by first | exact Nat.zero_le _ | omega⟩) (fun v_5 hv_6 => ?_)
      obtain rfl : v_5 = nI k0 := hv_6.trans (by rw [hf]; rfl)
      refine lv_istore (lv' := [(4, .int (nI k0)), (0, .ref y), (1, .int (nI d)), (2, .int (nI q)), (3, .int z)]) hx hb dX1_at_22 hl (by decide) rfl (fun ls hl => ?_)
      refine lv_aload_n hx hb dX1_at_24 rfl (lv_at hl 1 rfl) ?_
      refine lv_iload hx hb dX1_at_25 (lv_at hl 0 rfl) ?_
      refine lv_iconst (v := (-1)) hx hb dX1_at_27 (by decide) ?_
      refine lv_icmp_ne (tgt := 35) hx hb dX1_at_28 (by decide) (fun c_7 => ?_) (fun c_7 => ?_)
      · refine lv_iconst (v := 0) hx hb dX1_at_35 (by decide) ?_
        refine tp_i (y := nI 0) nI_0.symm ?_
        refine va_put (D := (dC, dI)) (ci := 1) (v := .int (nI 0)) (ty := .int) (C := RX1) (T := TX1) (N := 16) hx hb hall inX1 tyX1 tyX1_ok nmX1 hown hK hP hD hS 0 rfl rfl 0 (by decide) (hall _ kw_323) (fun _ h9 => h9) rfl (by decide +kernel) rfl rfl (Nat.le_of_ble_eq_true rfl) dX1_at_36 (fun H locs hP hD hS => ?_)
        have hP : va_P (dC, dI) vwCl [(y, .inr (1, [.int (nI 0), .int (nI nD), .int (nI nR), .ref b1, .ref b2, .long now, .ref b3, .ref b4, .ref b5, .int (nI zs.length), .ref b6, .ref b7, .int (nI el), .ref b8, .ref b9, .ref b10])), (b1, .inl (cJ, 512, .inr (.inl vs))), (b2, .inl (cZ, 512, .inl (fun j => bI (ac j)))), (b3, .inl (cI, 8192, .inl (fun j => nI (o j)))), (b4, .inl (cJ, 8192, .inr (.inl mt))), (b5, .inl (cJ, 8192, .inr (.inl mw))), (b6, .inl (cJ, 16, .inr (.inl nv))), (b7, .inl (cJ, 16, .inr (.inl dl))), (b8, .inl (cJ, 8208, .inr (.inl rt))), (b9, .inl (cJ, 8208, .inr (.inl rv))), (b10, .inl (cZ, 8208, .inl (fun j => bI (mk j))))] H := hP
        have hD : va_D A [(y, .inr (1, [.int (nI 0), .int (nI nD), .int (nI nR), .ref b1, .ref b2, .long now, .ref b3, .ref b4, .ref b5, .int (nI zs.length), .ref b6, .ref b7, .int (nI el), .ref b8, .ref b9, .ref b10])), (b1, .inl (cJ, 512, .inr (.inl vs))), (b2, .inl (cZ, 512, .inl (fun j => bI (ac j)))), (b3, .inl (cI, 8192, .inl (fun j => nI (o j)))), (b4, .inl (cJ, 8192, .inr (.inl mt))), (b5, .inl (cJ, 8192, .inr (.inl mw))), (b6, .inl (cJ, 16, .inr (.inl nv))), (b7, .inl (cJ, 16, .inr (.inl dl))), (b8, .inl (cJ, 8208, .inr (.inl rt))), (b9, .inl (cJ, 8208, .inr (.inl rv))), (b10, .inl (cZ, 8208, .inl (fun j => bI (mk j))))] := hD
        refine lv_aload_n hx hb dX1_at_39 rfl (lv_at hl 1 rfl) ?_
        refine va_get (D := (dC, dI)) (ci := 1) (v := .int (nI 0)) (C := RX1) (T := TX1) (N := 16) hx hb hall inX1 hown hK hP 0 rfl rfl 0 (by decide) (hall _ kw_323) (fun _ h9 => h9) rfl dX1_at_40 ?_
        refine xz_le (tgt := 50) hx hb (by omega) dX1_at_43 (by decide) (fun c_8 => ?_) (fun c_8 => ?_)
        · refine lv_iload_n hx hb dX1_at_50 rfl (lv_at hl 4 rfl) ?_
          refine lv_if_eq (tgt := 64) hx hb dX1_at_51 (by decide) (fun c_9 => ?_) (fun c_9 => ?_)
          · have c_A := c_9
            refine lv_aload_n hx hb dX1_at_64 rfl (lv_at hl 1 rfl) ?_
            refine va_get (D := (dC, dI)) (ci := 1) (v := .ref b5) (C := RX1) (T := TX1) (N := 16) hx hb hall inX1 hown hK hP 0 rfl rfl 8 (by decide) (hall _ kw_331) (fun _ h9 => h9) rfl dX1_at_65 ?_
            refine lv_iload hx hb dX1_at_68 (lv_at hl 0 rfl) ?_
            refine xa_lald hx hb hK hP 5 1 rfl rfl (by omega) (by omega) dX1_at_70 ?_
            exact W.lret (v := mw k0) hx hb hr (fun t9 ht hW => ⟨⟨mw k0, (), rfl, (if_pos c_A).symm, by rw [ht]; exact hP, va_K.moved hW.alike hK, hD⟩, hS.F ht⟩) hS.2.2 dX1_at_71
          · have c_A := c_9
            refine lv_aload_n hx hb dX1_at_54 rfl (lv_at hl 1 rfl) ?_
            refine va_get (D := (dC, dI)) (ci := 1) (v := .ref b4) (C := RX1) (T := TX1) (N := 16) hx hb hall inX1 hown hK hP 0 rfl rfl 7 (by decide) (hall _ kw_330) (fun _ h9 => h9) rfl dX1_at_55 ?_
            refine lv_iload hx hb dX1_at_58 (lv_at hl 0 rfl) ?_
            refine xa_lald hx hb hK hP 4 1 rfl rfl (by omega) (by omega) dX1_at_60 ?_
            refine lv_goto (tgt := 71) hx hb dX1_at_61 (by decide) ?_
            exact W.lret (v := mt k0) hx hb hr (fun t9 ht hW => ⟨⟨mt k0, (), rfl, (if_neg c_A).symm, by rw [ht]; exact hP, va_K.moved hW.alike hK, hD⟩, hS.F ht⟩) hS.2.2 dX1_at_71
        · exact absurd c_8 (by omega)
      · exact absurd (c_7 ▸ nI_pos' (by omega)) (by decide)
    · exact absurd (nI_pos' (by omega)) c_4
set_option maxHeartbeats 4000000 in
set_option maxRecDepth 100000 in
theorem m_projected1 (l : Launch) (dC : Nat → ClassId) (dI : Nat → Nat → Nat) (y b1 b2 b3 b4 b5 b6 b7 b8 b9 b10 : Nat) (cI cJ cZ : ClassId) (th nD nR : Nat) (vs : Nat → Int64) (ac : Nat → Bool) (now : Int64) (o : Nat → Nat) (mt mw : Nat → Int64) (nv dl : Nat → Int64) (el : Nat) (rt rv : Nat → Int64) (mk : Nat → Bool) (zs : List ZT) (sz : Nat) (i : Int32) (hbad : i < 0 ∨ nI nD ≤ i) (t : Int64) : Met l yX1_projected wsX1_projected ({ frames := 1, cells := 0, slots := 0, locals := 21 }) (va_Pc [.ref y, .int i, .long t] (fun U => U.heap.size = sz ∧ va_P (dC, dI) vwCl (wm y b1 b2 b3 b4 b5 b6 b7 b8 b9 b10 cI cJ cZ th nD nR vs ac now o mt mw zs.length nv dl el rt rv mk) U.heap ∧ va_K (dC, dI) vwCl [(cI, .int), (cJ, .long), (cZ, .boolean)] U ∧ va_D (fun _ => True) (wm y b1 b2 b3 b4 b5 b6 b7 b8 b9 b10 cI cJ cZ th nD nR vs ac now o mt mw zs.length nv dl el rt rv mk))) (va_Ql (fun (v : Int64) (_ : Unit) => True) (fun _ t9 => va_P (dC, dI) vwCl (wm y b1 b2 b3 b4 b5 b6 b7 b8 b9 b10 cI cJ cZ 1 nD nR vs ac now o mt mw zs.length nv dl el rt rv mk) t9.heap ∧ va_K (dC, dI) vwCl [(cI, .int), (cJ, .long), (cZ, .boolean)] t9 ∧ va_D (va_A (wm y b1 b2 b3 b4 b5 b6 b7 b8 b9 b10 cI cJ cZ th nD nR vs ac now o mt mw zs.length nv dl el rt rv mk) sz) (wm y b1 b2 b3 b4 b5 b6 b7 b8 b9 b10 cI cJ cZ 1 nD nR vs ac now o mt mw zs.length nv dl el rt rv mk)) (va_A (wm y b1 b2 b3 b4 b5 b6 b7 b8 b9 b10 cI cJ cZ th nD nR vs ac now o mt mw zs.length nv dl el rt rv mk) sz)) 0 0 (va_A (wm y b1 b2 b3 b4 b5 b6 b7 b8 b9 b10 cI cJ cZ th nD nR vs ac now o mt mw zs.length nv dl el rt rv mk) sz) := by
  refine Met.ofW (cc := cX1_projected) (maxL := 7) (ret := (some .long)) (by decide) rfl ?_
  intro p e s m args below meth c s₁ B hml hv
  obtain ⟨rfl, hsz, hP, hK, hD0⟩ := hv
  subst hsz
  have hD := hD0.self (sz := s.heap.size)
  generalize hAe : va_A (wm y b1 b2 b3 b4 b5 b6 b7 b8 b9 b10 cI cJ cZ th nD nR vs ac now o mt mw zs.length nv dl el rt rv mk) s.heap.size = A at hD ⊢
  have hA : ∀ q : Nat, s.heap.size ≤ q → A q := fun q h => by rw [← hAe]; exact Or.inr h
  have hS : va_S A s.heap s.heap [] := va_S.rf
  have hx := B.exec
  have hb := B.bytes
  have hr := B.returns
  have hts := atoms_spec (ws := wsX1_projected) B.pre
  have hown : s.vm.findClass RX1 = some m.cls := findClass_of_methodNamed B.named
  have hlocks := B.notSynchronized
  have hall := fun (w : Cond) (h : w ∈ allw) => hts w (List.mem_cons_of_mem _ h)
  have hl := lv_entry ([.ref y, .int i, .long t]) (n := 7) (Nat.le_of_ble_eq_true rfl)
  rw [lg_entry_eq]
  generalize (lg_sl ([.ref y, .int i, .long t]) ++ List.replicate (7 - (lg_sl ([.ref y, .int i, .long t])).length) Slot.unset).toArray = ls at hl ⊢
  have hl : lv_has ls 7 [(0, .ref y), (1, .int i), (2, .long t)] := hl
  refine lv_aload_n hx hb dX1_projected_0 rfl (lv_at hl 0 rfl) ?_
  refine lv_aload_n hx hb dX1_projected_1 rfl (lv_at hl 0 rfl) ?_
  refine lv_iload_n hx hb dX1_projected_2 rfl (lv_at hl 1 rfl) ?_
  refine vp_callSi (W.runV (As := [.int i]) (rest := [.ref y]) ⟨hx, hb, hml, hown, hall⟩ (m_none1 l dC dI y b1 b2 b3 b4 b5 b6 b7 b8 b9 b10 cI cJ cZ th nD nR vs ac now o mt mw nv dl el rt rv mk zs i hbad) (cwV 1 hall gX1_60 rfl rfl rfl (by decide +kernel) ⟨Nat.le_of_ble_eq_true rfl, Nat.le_of_ble_eq_true rfl⟩) ⟨xr_blind, va_recv hK hP (ci := 1) (q0 := 0) rfl rfl, fun U hU hW => ⟨rfl, by rw [hU]; exact hP, va_K.moved hW.alike hK⟩⟩ rfl rfl hl.1 rfl (lv_room (Nat.le_of_ble_eq_true rfl)) dX1_projected_3 ⟨by first | exact Nat.zero_le _ | omega, by first | exact Nat.zero_le _ | omega⟩) (fun v_1 hv_2 => ?_)
  subst hv_2
  refine lv_if_eq (tgt := 13) hx hb dX1_projected_6 (by decide) (fun c_3 => ?_) (fun c_3 => ?_)
  · exact absurd c_3 (by decide)
  · refine lv_iconst (v := 1) hx hb dX1_projected_9 (by decide) ?_
    refine tp_i (y := nI 1) (by decide) ?_
    refine lv_goto (tgt := 27) hx hb dX1_projected_10 (by decide) ?_
    refine va_put (D := (dC, dI)) (ci := 1) (v := .int (nI 1)) (ty := .int) (C := RX1) (T := TX1) (N := 16) hx hb hall inX1 tyX1 tyX1_ok nmX1 hown hK hP hD hS 0 rfl rfl 0 (by decide) (hall _ kw_323) (fun _ h9 => h9) rfl (by decide +kernel) rfl rfl (Nat.le_of_ble_eq_true rfl) dX1_projected_27 (fun H locs hP hD hS => ?_)
    have hP : va_P (dC, dI) vwCl [(y, .inr (1, [.int (nI 1), .int (nI nD), .int (nI nR), .ref b1, .ref b2, .long now, .ref b3, .ref b4, .ref b5, .int (nI zs.length), .ref b6, .ref b7, .int (nI el), .ref b8, .ref b9, .ref b10])), (b1, .inl (cJ, 512, .inr (.inl vs))), (b2, .inl (cZ, 512, .inl (fun j => bI (ac j)))), (b3, .inl (cI, 8192, .inl (fun j => nI (o j)))), (b4, .inl (cJ, 8192, .inr (.inl mt))), (b5, .inl (cJ, 8192, .inr (.inl mw))), (b6, .inl (cJ, 16, .inr (.inl nv))), (b7, .inl (cJ, 16, .inr (.inl dl))), (b8, .inl (cJ, 8208, .inr (.inl rt))), (b9, .inl (cJ, 8208, .inr (.inl rv))), (b10, .inl (cZ, 8208, .inl (fun j => bI (mk j))))] H := hP
    have hD : va_D A [(y, .inr (1, [.int (nI 1), .int (nI nD), .int (nI nR), .ref b1, .ref b2, .long now, .ref b3, .ref b4, .ref b5, .int (nI zs.length), .ref b6, .ref b7, .int (nI el), .ref b8, .ref b9, .ref b10])), (b1, .inl (cJ, 512, .inr (.inl vs))), (b2, .inl (cZ, 512, .inl (fun j => bI (ac j)))), (b3, .inl (cI, 8192, .inl (fun j => nI (o j)))), (b4, .inl (cJ, 8192, .inr (.inl mt))), (b5, .inl (cJ, 8192, .inr (.inl mw))), (b6, .inl (cJ, 16, .inr (.inl nv))), (b7, .inl (cJ, 16, .inr (.inl dl))), (b8, .inl (cJ, 8208, .inr (.inl rt))), (b9, .inl (cJ, 8208, .inr (.inl rv))), (b10, .inl (cZ, 8208, .inl (fun j => bI (mk j))))] := hD
    refine lv_aload_n hx hb dX1_projected_30 rfl (lv_at hl 0 rfl) ?_
    refine va_get (D := (dC, dI)) (ci := 1) (v := .int (nI 1)) (C := RX1) (T := TX1) (N := 16) hx hb hall inX1 hown hK hP 0 rfl rfl 0 (by decide) (hall _ kw_323) (fun _ h9 => h9) rfl dX1_projected_31 ?_
    refine xz_le (tgt := 39) hx hb (by omega) dX1_projected_34 (by decide) (fun c_4 => ?_) (fun c_4 => ?_)
    · exact absurd c_4 (by omega)
    · refine lv_lconst (v := 0) hx hb dX1_projected_37 (by decide) ?_
      exact W.lret (v := 0) hx hb hr (fun t9 ht hW => ⟨⟨0, (), rfl, trivial, by rw [ht]; exact hP, va_K.moved hW.alike hK, hD⟩, hS.F ht⟩) hS.2.2 dX1_projected_38
set_option maxHeartbeats 4000000 in
set_option maxRecDepth 100000 in
theorem m_projected2 (l : Launch) (dC : Nat → ClassId) (dI : Nat → Nat → Nat) (y b1 b2 b3 b4 b5 b6 b7 b8 b9 b10 : Nat) (cI cJ cZ : ClassId) (th nD nR : Nat) (vs : Nat → Int64) (ac : Nat → Bool) (now : Int64) (o : Nat → Nat) (mt mw : Nat → Int64) (nv dl : Nat → Int64) (el : Nat) (rt rv : Nat → Int64) (mk : Nat → Bool) (zs : List ZT) (sz : Nat) (hI : wm_I nD nR el zs) (hZ : wz zs o mt mw) (d : Nat) (hd : d < nD) (t : Int64) (ht : t < now) : Met l yX1_projected wsX1_projected ({ frames := 1, cells := 0, slots := 0, locals := 21 }) (va_Pc [.ref y, .int (nI d), .long t] (fun U => U.heap.size = sz ∧ va_P (dC, dI) vwCl (wm y b1 b2 b3 b4 b5 b6 b7 b8 b9 b10 cI cJ cZ th nD nR vs ac now o mt mw zs.length nv dl el rt rv mk) U.heap ∧ va_K (dC, dI) vwCl [(cI, .int), (cJ, .long), (cZ, .boolean)] U ∧ va_D (fun _ => True) (wm y b1 b2 b3 b4 b5 b6 b7 b8 b9 b10 cI cJ cZ th nD nR vs ac now o mt mw zs.length nv dl el rt rv mk))) (va_Ql (fun (v : Int64) (_ : Unit) => True) (fun _ t9 => va_P (dC, dI) vwCl (wm y b1 b2 b3 b4 b5 b6 b7 b8 b9 b10 cI cJ cZ 2 nD nR vs ac now o mt mw zs.length nv dl el rt rv mk) t9.heap ∧ va_K (dC, dI) vwCl [(cI, .int), (cJ, .long), (cZ, .boolean)] t9 ∧ va_D (va_A (wm y b1 b2 b3 b4 b5 b6 b7 b8 b9 b10 cI cJ cZ th nD nR vs ac now o mt mw zs.length nv dl el rt rv mk) sz) (wm y b1 b2 b3 b4 b5 b6 b7 b8 b9 b10 cI cJ cZ 2 nD nR vs ac now o mt mw zs.length nv dl el rt rv mk)) (va_A (wm y b1 b2 b3 b4 b5 b6 b7 b8 b9 b10 cI cJ cZ th nD nR vs ac now o mt mw zs.length nv dl el rt rv mk) sz)) 0 0 (va_A (wm y b1 b2 b3 b4 b5 b6 b7 b8 b9 b10 cI cJ cZ th nD nR vs ac now o mt mw zs.length nv dl el rt rv mk) sz) := by
  refine Met.ofW (cc := cX1_projected) (maxL := 7) (ret := (some .long)) (by decide) rfl ?_
  intro p e s m args below meth c s₁ B hml hv
  obtain ⟨rfl, hsz, hP, hK, hD0⟩ := hv
  subst hsz
  have hD := hD0.self (sz := s.heap.size)
  generalize hAe : va_A (wm y b1 b2 b3 b4 b5 b6 b7 b8 b9 b10 cI cJ cZ th nD nR vs ac now o mt mw zs.length nv dl el rt rv mk) s.heap.size = A at hD ⊢
  have hA : ∀ q : Nat, s.heap.size ≤ q → A q := fun q h => by rw [← hAe]; exact Or.inr h
  have hS : va_S A s.heap s.heap [] := va_S.rf
  have hx := B.exec
  have hb := B.bytes
  have hr := B.returns
  have hts := atoms_spec (ws := wsX1_projected) B.pre
  have hown : s.vm.findClass RX1 = some m.cls := findClass_of_methodNamed B.named
  have hlocks := B.notSynchronized
  have hall := fun (w : Cond) (h : w ∈ allw) => hts w (List.mem_cons_of_mem _ h)
  have hl := lv_entry ([.ref y, .int (nI d), .long t]) (n := 7) (Nat.le_of_ble_eq_true rfl)
  rw [lg_entry_eq]
  generalize (lg_sl ([.ref y, .int (nI d), .long t]) ++ List.replicate (7 - (lg_sl ([.ref y, .int (nI d), .long t])).length) Slot.unset).toArray = ls at hl ⊢
  have hl : lv_has ls 7 [(0, .ref y), (1, .int (nI d)), (2, .long t)] := hl
  have hI0 := hI
  obtain ⟨hnD1, hnD, hnR1, hnR, hzR, hel, how⟩ := hI
  refine lv_aload_n hx hb dX1_projected_0 rfl (lv_at hl 0 rfl) ?_
  refine lv_aload_n hx hb dX1_projected_1 rfl (lv_at hl 0 rfl) ?_
  refine lv_iload_n hx hb dX1_projected_2 rfl (lv_at hl 1 rfl) ?_
  refine vp_callSi (W.runV (As := [.int (nI d)]) (rest := [.ref y]) ⟨hx, hb, hml, hown, hall⟩ (m_none0 l dC dI y b1 b2 b3 b4 b5 b6 b7 b8 b9 b10 cI cJ cZ th nD nR vs ac now o mt mw nv dl el rt rv mk zs hI0 hZ d hd) (cwV 1 hall gX1_60 rfl rfl rfl (by decide +kernel) ⟨Nat.le_of_ble_eq_true rfl, Nat.le_of_ble_eq_true rfl⟩) ⟨xr_blind, va_recv hK hP (ci := 1) (q0 := 0) rfl rfl, fun U hU hW => ⟨rfl, by rw [hU]; exact hP, va_K.moved hW.alike hK⟩⟩ rfl rfl hl.1 rfl (lv_room (Nat.le_of_ble_eq_true rfl)) dX1_projected_3 ⟨by first | exact Nat.zero_le _ | omega, by first | exact Nat.zero_le _ | omega⟩) (fun v_1 hv_2 => ?_)
  subst hv_2
  refine lv_if_eq (tgt := 13) hx hb dX1_projected_6 (by decide) (fun c_3 => ?_) (fun c_3 => ?_)
  · refine lv_lload_n hx hb dX1_projected_13 rfl (lv_at hl 2 rfl) ?_
    refine lv_aload_n hx hb dX1_projected_14 rfl (lv_at hl 0 rfl) ?_
    refine va_get (D := (dC, dI)) (ci := 1) (v := .long now) (C := RX1) (T := TX1) (N := 16) hx hb hall inX1 hown hK hP 0 rfl rfl 5 (by decide) (hall _ kw_328) (fun _ h9 => h9) rfl dX1_projected_15 ?_
    refine xl_ge (tgt := 26) hx hb dX1_projected_18 dX1_projected_19 (by decide) (fun c_4 => ?_) (fun c_4 => ?_)
    · exact absurd ht (Int64.not_lt.mpr c_4)
    · refine lv_iconst (v := 2) hx hb dX1_projected_22 (by decide) ?_
      refine tp_i (y := nI 2) (by decide) ?_
      refine lv_goto (tgt := 27) hx hb dX1_projected_23 (by decide) ?_
      refine va_put (D := (dC, dI)) (ci := 1) (v := .int (nI 2)) (ty := .int) (C := RX1) (T := TX1) (N := 16) hx hb hall inX1 tyX1 tyX1_ok nmX1 hown hK hP hD hS 0 rfl rfl 0 (by decide) (hall _ kw_323) (fun _ h9 => h9) rfl (by decide +kernel) rfl rfl (Nat.le_of_ble_eq_true rfl) dX1_projected_27 (fun H locs hP hD hS => ?_)
      have hP : va_P (dC, dI) vwCl [(y, .inr (1, [.int (nI 2), .int (nI nD), .int (nI nR), .ref b1, .ref b2, .long now, .ref b3, .ref b4, .ref b5, .int (nI zs.length), .ref b6, .ref b7, .int (nI el), .ref b8, .ref b9, .ref b10])), (b1, .inl (cJ, 512, .inr (.inl vs))), (b2, .inl (cZ, 512, .inl (fun j => bI (ac j)))), (b3, .inl (cI, 8192, .inl (fun j => nI (o j)))), (b4, .inl (cJ, 8192, .inr (.inl mt))), (b5, .inl (cJ, 8192, .inr (.inl mw))), (b6, .inl (cJ, 16, .inr (.inl nv))), (b7, .inl (cJ, 16, .inr (.inl dl))), (b8, .inl (cJ, 8208, .inr (.inl rt))), (b9, .inl (cJ, 8208, .inr (.inl rv))), (b10, .inl (cZ, 8208, .inl (fun j => bI (mk j))))] H := hP
      have hD : va_D A [(y, .inr (1, [.int (nI 2), .int (nI nD), .int (nI nR), .ref b1, .ref b2, .long now, .ref b3, .ref b4, .ref b5, .int (nI zs.length), .ref b6, .ref b7, .int (nI el), .ref b8, .ref b9, .ref b10])), (b1, .inl (cJ, 512, .inr (.inl vs))), (b2, .inl (cZ, 512, .inl (fun j => bI (ac j)))), (b3, .inl (cI, 8192, .inl (fun j => nI (o j)))), (b4, .inl (cJ, 8192, .inr (.inl mt))), (b5, .inl (cJ, 8192, .inr (.inl mw))), (b6, .inl (cJ, 16, .inr (.inl nv))), (b7, .inl (cJ, 16, .inr (.inl dl))), (b8, .inl (cJ, 8208, .inr (.inl rt))), (b9, .inl (cJ, 8208, .inr (.inl rv))), (b10, .inl (cZ, 8208, .inl (fun j => bI (mk j))))] := hD
      refine lv_aload_n hx hb dX1_projected_30 rfl (lv_at hl 0 rfl) ?_
      refine va_get (D := (dC, dI)) (ci := 1) (v := .int (nI 2)) (C := RX1) (T := TX1) (N := 16) hx hb hall inX1 hown hK hP 0 rfl rfl 0 (by decide) (hall _ kw_323) (fun _ h9 => h9) rfl dX1_projected_31 ?_
      refine xz_le (tgt := 39) hx hb (by omega) dX1_projected_34 (by decide) (fun c_5 => ?_) (fun c_5 => ?_)
      · exact absurd c_5 (by omega)
      · refine lv_lconst (v := 0) hx hb dX1_projected_37 (by decide) ?_
        exact W.lret (v := 0) hx hb hr (fun t9 ht hW => ⟨⟨0, (), rfl, trivial, by rw [ht]; exact hP, va_K.moved hW.alike hK, hD⟩, hS.F ht⟩) hS.2.2 dX1_projected_38
  · exact absurd rfl c_3
set_option maxHeartbeats 4000000 in
set_option maxRecDepth 100000 in
theorem m_projected0 (l : Launch) (dC : Nat → ClassId) (dI : Nat → Nat → Nat) (y b1 b2 b3 b4 b5 b6 b7 b8 b9 b10 : Nat) (cI cJ cZ : ClassId) (th nD nR : Nat) (vs : Nat → Int64) (ac : Nat → Bool) (now : Int64) (o : Nat → Nat) (mt mw : Nat → Int64) (nv dl : Nat → Int64) (el : Nat) (rt rv : Nat → Int64) (mk : Nat → Bool) (zs : List ZT) (sz : Nat) (hI : wm_I nD nR el zs) (hZ : wz zs o mt mw) (d : Nat) (hd : d < nD) (t : Int64) (ht : ¬ t < now) : Met l yX1_projected wsX1_projected ({ frames := 1, cells := 0, slots := 0, locals := 21 }) (va_Pc [.ref y, .int (nI d), .long t] (fun U => U.heap.size = sz ∧ va_P (dC, dI) vwCl (wm y b1 b2 b3 b4 b5 b6 b7 b8 b9 b10 cI cJ cZ th nD nR vs ac now o mt mw zs.length nv dl el rt rv mk) U.heap ∧ va_K (dC, dI) vwCl [(cI, .int), (cJ, .long), (cZ, .boolean)] U ∧ va_D (fun _ => True) (wm y b1 b2 b3 b4 b5 b6 b7 b8 b9 b10 cI cJ cZ th nD nR vs ac now o mt mw zs.length nv dl el rt rv mk))) (va_Ql (fun (v : Int64) (_ : Unit) => v = wpj d t zs (vs d)) (fun _ t9 => va_P (dC, dI) vwCl (wm y b1 b2 b3 b4 b5 b6 b7 b8 b9 b10 cI cJ cZ 0 nD nR vs ac now o mt mw zs.length nv dl el rt rv mk) t9.heap ∧ va_K (dC, dI) vwCl [(cI, .int), (cJ, .long), (cZ, .boolean)] t9 ∧ va_D (va_A (wm y b1 b2 b3 b4 b5 b6 b7 b8 b9 b10 cI cJ cZ th nD nR vs ac now o mt mw zs.length nv dl el rt rv mk) sz) (wm y b1 b2 b3 b4 b5 b6 b7 b8 b9 b10 cI cJ cZ 0 nD nR vs ac now o mt mw zs.length nv dl el rt rv mk)) (va_A (wm y b1 b2 b3 b4 b5 b6 b7 b8 b9 b10 cI cJ cZ th nD nR vs ac now o mt mw zs.length nv dl el rt rv mk) sz)) 0 0 (va_A (wm y b1 b2 b3 b4 b5 b6 b7 b8 b9 b10 cI cJ cZ th nD nR vs ac now o mt mw zs.length nv dl el rt rv mk) sz) := by
  refine Met.ofW (cc := cX1_projected) (maxL := 7) (ret := (some .long)) (by decide) rfl ?_
  intro p e s m args below meth c s₁ B hml hv
  obtain ⟨rfl, hsz, hP, hK, hD0⟩ := hv
  subst hsz
  have hD := hD0.self (sz := s.heap.size)
  generalize hAe : va_A (wm y b1 b2 b3 b4 b5 b6 b7 b8 b9 b10 cI cJ cZ th nD nR vs ac now o mt mw zs.length nv dl el rt rv mk) s.heap.size = A at hD ⊢
  have hA : ∀ q : Nat, s.heap.size ≤ q → A q := fun q h => by rw [← hAe]; exact Or.inr h
  have hS : va_S A s.heap s.heap [] := va_S.rf
  have hx := B.exec
  have hb := B.bytes
  have hr := B.returns
  have hts := atoms_spec (ws := wsX1_projected) B.pre
  have hown : s.vm.findClass RX1 = some m.cls := findClass_of_methodNamed B.named
  have hlocks := B.notSynchronized
  have hall := fun (w : Cond) (h : w ∈ allw) => hts w (List.mem_cons_of_mem _ h)
  have hl := lv_entry ([.ref y, .int (nI d), .long t]) (n := 7) (Nat.le_of_ble_eq_true rfl)
  rw [lg_entry_eq]
  generalize (lg_sl ([.ref y, .int (nI d), .long t]) ++ List.replicate (7 - (lg_sl ([.ref y, .int (nI d), .long t])).length) Slot.unset).toArray = ls at hl ⊢
  have hl : lv_has ls 7 [(0, .ref y), (1, .int (nI d)), (2, .long t)] := hl
  have hI0 := hI
  obtain ⟨hnD1, hnD, hnR1, hnR, hzR, hel, how⟩ := hI
  refine lv_aload_n hx hb dX1_projected_0 rfl (lv_at hl 0 rfl) ?_
  refine lv_aload_n hx hb dX1_projected_1 rfl (lv_at hl 0 rfl) ?_
  refine lv_iload_n hx hb dX1_projected_2 rfl (lv_at hl 1 rfl) ?_
  refine vp_callSi (W.runV (As := [.int (nI d)]) (rest := [.ref y]) ⟨hx, hb, hml, hown, hall⟩ (m_none0 l dC dI y b1 b2 b3 b4 b5 b6 b7 b8 b9 b10 cI cJ cZ th nD nR vs ac now o mt mw nv dl el rt rv mk zs hI0 hZ d hd) (cwV 1 hall gX1_60 rfl rfl rfl (by decide +kernel) ⟨Nat.le_of_ble_eq_true rfl, Nat.le_of_ble_eq_true rfl⟩) ⟨xr_blind, va_recv hK hP (ci := 1) (q0 := 0) rfl rfl, fun U hU hW => ⟨rfl, by rw [hU]; exact hP, va_K.moved hW.alike hK⟩⟩ rfl rfl hl.1 rfl (lv_room (Nat.le_of_ble_eq_true rfl)) dX1_projected_3 ⟨by first | exact Nat.zero_le _ | omega, by first | exact Nat.zero_le _ | omega⟩) (fun v_1 hv_2 => ?_)
  subst hv_2
  refine lv_if_eq (tgt := 13) hx hb dX1_projected_6 (by decide) (fun c_3 => ?_) (fun c_3 => ?_)
  · refine lv_lload_n hx hb dX1_projected_13 rfl (lv_at hl 2 rfl) ?_
    refine lv_aload_n hx hb dX1_projected_14 rfl (lv_at hl 0 rfl) ?_
    refine va_get (D := (dC, dI)) (ci := 1) (v := .long now) (C := RX1) (T := TX1) (N := 16) hx hb hall inX1 hown hK hP 0 rfl rfl 5 (by decide) (hall _ kw_328) (fun _ h9 => h9) rfl dX1_projected_15 ?_
    refine xl_ge (tgt := 26) hx hb dX1_projected_18 dX1_projected_19 (by decide) (fun c_4 => ?_) (fun c_4 => ?_)
    · refine lv_iconst (v := 0) hx hb dX1_projected_26 (by decide) ?_
      refine tp_i (y := nI 0) nI_0.symm ?_
      refine va_put (D := (dC, dI)) (ci := 1) (v := .int (nI 0)) (ty := .int) (C := RX1) (T := TX1) (N := 16) hx hb hall inX1 tyX1 tyX1_ok nmX1 hown hK hP hD hS 0 rfl rfl 0 (by decide) (hall _ kw_323) (fun _ h9 => h9) rfl (by decide +kernel) rfl rfl (Nat.le_of_ble_eq_true rfl) dX1_projected_27 (fun H locs hP hD hS => ?_)
      have hP : va_P (dC, dI) vwCl [(y, .inr (1, [.int (nI 0), .int (nI nD), .int (nI nR), .ref b1, .ref b2, .long now, .ref b3, .ref b4, .ref b5, .int (nI zs.length), .ref b6, .ref b7, .int (nI el), .ref b8, .ref b9, .ref b10])), (b1, .inl (cJ, 512, .inr (.inl vs))), (b2, .inl (cZ, 512, .inl (fun j => bI (ac j)))), (b3, .inl (cI, 8192, .inl (fun j => nI (o j)))), (b4, .inl (cJ, 8192, .inr (.inl mt))), (b5, .inl (cJ, 8192, .inr (.inl mw))), (b6, .inl (cJ, 16, .inr (.inl nv))), (b7, .inl (cJ, 16, .inr (.inl dl))), (b8, .inl (cJ, 8208, .inr (.inl rt))), (b9, .inl (cJ, 8208, .inr (.inl rv))), (b10, .inl (cZ, 8208, .inl (fun j => bI (mk j))))] H := hP
      have hD : va_D A [(y, .inr (1, [.int (nI 0), .int (nI nD), .int (nI nR), .ref b1, .ref b2, .long now, .ref b3, .ref b4, .ref b5, .int (nI zs.length), .ref b6, .ref b7, .int (nI el), .ref b8, .ref b9, .ref b10])), (b1, .inl (cJ, 512, .inr (.inl vs))), (b2, .inl (cZ, 512, .inl (fun j => bI (ac j)))), (b3, .inl (cI, 8192, .inl (fun j => nI (o j)))), (b4, .inl (cJ, 8192, .inr (.inl mt))), (b5, .inl (cJ, 8192, .inr (.inl mw))), (b6, .inl (cJ, 16, .inr (.inl nv))), (b7, .inl (cJ, 16, .inr (.inl dl))), (b8, .inl (cJ, 8208, .inr (.inl rt))), (b9, .inl (cJ, 8208, .inr (.inl rv))), (b10, .inl (cZ, 8208, .inl (fun j => bI (mk j))))] := hD
      refine lv_aload_n hx hb dX1_projected_30 rfl (lv_at hl 0 rfl) ?_
      refine va_get (D := (dC, dI)) (ci := 1) (v := .int (nI 0)) (C := RX1) (T := TX1) (N := 16) hx hb hall inX1 hown hK hP 0 rfl rfl 0 (by decide) (hall _ kw_323) (fun _ h9 => h9) rfl dX1_projected_31 ?_
      refine xz_le (tgt := 39) hx hb (by omega) dX1_projected_34 (by decide) (fun c_5 => ?_) (fun c_5 => ?_)
      · refine lv_aload_n hx hb dX1_projected_39 rfl (lv_at hl 0 rfl) ?_
        refine va_get (D := (dC, dI)) (ci := 1) (v := .ref b1) (C := RX1) (T := TX1) (N := 16) hx hb hall inX1 hown hK hP 0 rfl rfl 3 (by decide) (hall _ kw_326) (fun _ h9 => h9) rfl dX1_projected_40 ?_
        refine lv_iload_n hx hb dX1_projected_43 rfl (lv_at hl 1 rfl) ?_
        refine xa_lald hx hb hK hP 1 1 rfl rfl (by omega) (by omega) dX1_projected_44 ?_
        refine lv_lstore (lv' := [(4, .long (vs d)), (0, .ref y), (1, .int (nI d)), (2, .long t)]) hx hb dX1_projected_45 hl (by decide) rfl (fun ls hl => ?_)
        refine lv_iconst (v := 0) hx hb dX1_projected_47 (by decide) ?_
        refine tp_i (y := nI 0) nI_0.symm ?_
        refine lv_istore (lv' := [(6, .int (nI 0)), (4, .long (vs d)), (0, .ref y), (1, .int (nI d)), (2, .long t)]) hx hb dX1_projected_48 hl (by decide) rfl (fun ls hl => ?_)
        have hloop : ∀ (ss : List ZT) (k : Nat) (v0 : Int64) (H : Heap) (locs : List Loc) (ls : Array Slot), zs.drop k = ss → k ≤ zs.length → wpj d t ss v0 = wpj d t zs (vs d) → va_P (dC, dI) vwCl [(y, .inr (1, [.int (nI 0), .int (nI nD), .int (nI nR), .ref b1, .ref b2, .long now, .ref b3, .ref b4, .ref b5, .int (nI zs.length), .ref b6, .ref b7, .int (nI el), .ref b8, .ref b9, .ref b10])), (b1, .inl (cJ, 512, .inr (.inl vs))), (b2, .inl (cZ, 512, .inl (fun j => bI (ac j)))), (b3, .inl (cI, 8192, .inl (fun j => nI (o j)))), (b4, .inl (cJ, 8192, .inr (.inl mt))), (b5, .inl (cJ, 8192, .inr (.inl mw))), (b6, .inl (cJ, 16, .inr (.inl nv))), (b7, .inl (cJ, 16, .inr (.inl dl))), (b8, .inl (cJ, 8208, .inr (.inl rt))), (b9, .inl (cJ, 8208, .inr (.inl rv))), (b10, .inl (cZ, 8208, .inl (fun j => bI (mk j))))] H → va_D A [(y, .inr (1, [.int (nI 0), .int (nI nD), .int (nI nR), .ref b1, .ref b2, .long now, .ref b3, .ref b4, .ref b5, .int (nI zs.length), .ref b6, .ref b7, .int (nI el), .ref b8, .ref b9, .ref b10])), (b1, .inl (cJ, 512, .inr (.inl vs))), (b2, .inl (cZ, 512, .inl (fun j => bI (ac j)))), (b3, .inl (cI, 8192, .inl (fun j => nI (o j)))), (b4, .inl (cJ, 8192, .inr (.inl mt))), (b5, .inl (cJ, 8192, .inr (.inl mw))), (b6, .inl (cJ, 16, .inr (.inl nv))), (b7, .inl (cJ, 16, .inr (.inl dl))), (b8, .inl (cJ, 8208, .inr (.inl rt))), (b9, .inl (cJ, 8208, .inr (.inl rv))), (b10, .inl (cZ, 8208, .inl (fun j => bI (mk j))))] → va_S A s.heap H locs → lv_has ls 7 [(0, .ref y), (1, .int (nI d)), (2, .long t), (4, .long v0), (6, .int (nI k))] → W p l e (headSpec wsX1_projected ({ frames := 1, cells := 0, slots := 0, locals := 21 })).room s m (([.ref y, .int (nI d), .long t] : List Value).toArray) below meth c H locs 0 0 (MQ below (va_Ql (fun (v : Int64) (_ : Unit) => v = wpj d t zs (vs d)) (fun _ t9 => va_P (dC, dI) vwCl (wm y b1 b2 b3 b4 b5 b6 b7 b8 b9 b10 cI cJ cZ 0 nD nR vs ac now o mt mw zs.length nv dl el rt rv mk) t9.heap ∧ va_K (dC, dI) vwCl [(cI, .int), (cJ, .long), (cZ, .boolean)] t9 ∧ va_D A (wm y b1 b2 b3 b4 b5 b6 b7 b8 b9 b10 cI cJ cZ 0 nD nR vs ac now o mt mw zs.length nv dl el rt rv mk)) A) (([.ref y, .int (nI d), .long t] : List Value).toArray) s 0 0 A) (F0 m 50 ls []) := by
          intro ss
          induction ss with
          | nil =>
            intro k v0 H locs ls hss hkl hw hP hD hS hl
            have hk := wz_nil hss
            refine lv_iload hx hb dX1_projected_50 (lv_at hl 4 rfl) ?_
            refine lv_aload_n hx hb dX1_projected_52 rfl (lv_at hl 0 rfl) ?_
            refine va_get (D := (dC, dI)) (ci := 1) (v := .int (nI zs.length)) (C := RX1) (T := TX1) (N := 16) hx hb hall inX1 hown hK hP 0 rfl rfl 9 (by decide) (hall _ kw_332) (fun _ h9 => h9) rfl dX1_projected_53 ?_
            refine xc_ge (tgt := 102) hx hb (by omega) (by omega) dX1_projected_56 (by decide) (fun c_6 => ?_) (fun c_6 => ?_)
            · refine lv_lload hx hb dX1_projected_102 (lv_at hl 3 rfl) ?_
              exact W.lret (v := v0) hx hb hr (fun t9 ht hW => ⟨⟨v0, (), rfl, hw, by rw [ht]; exact hP, va_K.moved hW.alike hK, hD⟩, hS.F ht⟩) hS.2.2 dX1_projected_104
            · exact absurd c_6 (by omega)
          | cons z tl ih =>
            intro k v0 H locs ls hss hkl hw hP hD hS hl
            obtain ⟨hk, hzk, htl⟩ := wz_drop hss
            obtain ⟨ez1, ez2, ez3⟩ := hZ k z hzk
            have hod : o k < 512 := by have := how z (List.mem_of_getElem? hzk); omega
            refine lv_iload hx hb dX1_projected_50 (lv_at hl 4 rfl) ?_
            refine lv_aload_n hx hb dX1_projected_52 rfl (lv_at hl 0 rfl) ?_
            refine va_get (D := (dC, dI)) (ci := 1) (v := .int (nI zs.length)) (C := RX1) (T := TX1) (N := 16) hx hb hall inX1 hown hK hP 0 rfl rfl 9 (by decide) (hall _ kw_332) (fun _ h9 => h9) rfl dX1_projected_53 ?_
            refine xc_ge (tgt := 102) hx hb (by omega) (by omega) dX1_projected_56 (by decide) (fun c_7 => ?_) (fun c_7 => ?_)
            · exact absurd c_7 (by omega)
            · refine lv_aload_n hx hb dX1_projected_59 rfl (lv_at hl 0 rfl) ?_
              refine va_get (D := (dC, dI)) (ci := 1) (v := .ref b3) (C := RX1) (T := TX1) (N := 16) hx hb hall inX1 hown hK hP 0 rfl rfl 6 (by decide) (hall _ kw_329) (fun _ h9 => h9) rfl dX1_projected_60 ?_
              refine lv_iload hx hb dX1_projected_63 (lv_at hl 4 rfl) ?_
              refine xa_iald hx hb hK hP 3 0 rfl rfl (by omega) (by omega) dX1_projected_65 ?_
              refine lv_iload_n hx hb dX1_projected_66 rfl (lv_at hl 1 rfl) ?_
              refine xc_ne (tgt := 92) hx hb (by omega) (by omega) dX1_projected_67 (by decide) (fun c_8 => ?_) (fun c_8 => ?_)
              · have c_A := c_8
                refine lv_lload hx hb dX1_projected_92 (lv_at hl 3 rfl) ?_
                refine lv_lstore (lv' := [(4, .long v0), (0, .ref y), (1, .int (nI d)), (2, .long t), (6, .int (nI k))]) hx hb dX1_projected_94 hl (by decide) rfl (fun ls hl => ?_)
                refine lv_iinc (v := nI (k + 1)) (lv' := [(6, .int (nI (k + 1))), (4, .long v0), (0, .ref y), (1, .int (nI d)), (2, .long t)]) hx hb dX1_projected_96 hl (k := 4) rfl (nI_1 k) (by decide) rfl (fun ls hl => ?_)
                refine lv_goto (tgt := 50) hx hb dX1_projected_99 (by decide) ?_
                exact ih (k + 1) v0 H locs ls htl (by omega) ((congrArg (wpj d t tl) ((if_neg (fun q => by first | exact c_A (ez1.trans q.1) | exact absurd (ez2 ▸ c_B) (Int64.not_lt.mpr q.2))).symm)).trans hw) hP hD hS (lv_sub hl [2, 3, 4, 1, 0] rfl)
              · have c_A := c_8
                refine lv_aload_n hx hb dX1_projected_70 rfl (lv_at hl 0 rfl) ?_
                refine va_get (D := (dC, dI)) (ci := 1) (v := .ref b4) (C := RX1) (T := TX1) (N := 16) hx hb hall inX1 hown hK hP 0 rfl rfl 7 (by decide) (hall _ kw_330) (fun _ h9 => h9) rfl dX1_projected_71 ?_
                refine lv_iload hx hb dX1_projected_74 (lv_at hl 4 rfl) ?_
                refine xa_lald hx hb hK hP 4 1 rfl rfl (by omega) (by omega) dX1_projected_76 ?_
                refine lv_lload_n hx hb dX1_projected_77 rfl (lv_at hl 2 rfl) ?_
                refine xl_gt (tgt := 92) hx hb dX1_projected_78 dX1_projected_79 (by decide) (fun c_9 => ?_) (fun c_9 => ?_)
                · have c_B := c_9
                  refine lv_lload hx hb dX1_projected_92 (lv_at hl 3 rfl) ?_
                  refine lv_lstore (lv' := [(4, .long v0), (0, .ref y), (1, .int (nI d)), (2, .long t), (6, .int (nI k))]) hx hb dX1_projected_94 hl (by decide) rfl (fun ls hl => ?_)
                  refine lv_iinc (v := nI (k + 1)) (lv' := [(6, .int (nI (k + 1))), (4, .long v0), (0, .ref y), (1, .int (nI d)), (2, .long t)]) hx hb dX1_projected_96 hl (k := 4) rfl (nI_1 k) (by decide) rfl (fun ls hl => ?_)
                  refine lv_goto (tgt := 50) hx hb dX1_projected_99 (by decide) ?_
                  exact ih (k + 1) v0 H locs ls htl (by omega) ((congrArg (wpj d t tl) ((if_neg (fun q => by first | exact c_A (ez1.trans q.1) | exact absurd (ez2 ▸ c_B) (Int64.not_lt.mpr q.2))).symm)).trans hw) hP hD hS (lv_sub hl [2, 3, 4, 1, 0] rfl)
                · have c_B := c_9
                  refine lv_aload_n hx hb dX1_projected_82 rfl (lv_at hl 0 rfl) ?_
                  refine va_get (D := (dC, dI)) (ci := 1) (v := .ref b5) (C := RX1) (T := TX1) (N := 16) hx hb hall inX1 hown hK hP 0 rfl rfl 8 (by decide) (hall _ kw_331) (fun _ h9 => h9) rfl dX1_projected_83 ?_
                  refine lv_iload hx hb dX1_projected_86 (lv_at hl 4 rfl) ?_
                  refine xa_lald hx hb hK hP 5 1 rfl rfl (by omega) (by omega) dX1_projected_88 ?_
                  refine lv_goto (tgt := 94) hx hb dX1_projected_89 (by decide) ?_
                  refine lv_lstore (lv' := [(4, .long (mw k)), (0, .ref y), (1, .int (nI d)), (2, .long t), (6, .int (nI k))]) hx hb dX1_projected_94 hl (by decide) rfl (fun ls hl => ?_)
                  refine lv_iinc (v := nI (k + 1)) (lv' := [(6, .int (nI (k + 1))), (4, .long (mw k)), (0, .ref y), (1, .int (nI d)), (2, .long t)]) hx hb dX1_projected_96 hl (k := 4) rfl (nI_1 k) (by decide) rfl (fun ls hl => ?_)
                  refine lv_goto (tgt := 50) hx hb dX1_projected_99 (by decide) ?_
                  exact ih (k + 1) (mw k) H locs ls htl (by omega) ((congrArg (wpj d t tl) (((if_pos ⟨ez1.symm.trans c_A, ez2 ▸ Int64.not_lt.mp c_B⟩).trans ez3.symm).symm)).trans hw) hP hD hS (lv_sub hl [2, 3, 4, 1, 0] rfl)
        exact hloop zs 0 (vs d) H locs ls rfl (by omega) rfl hP hD hS (lv_sub hl [2, 3, 4, 1, 0] rfl)
      · exact absurd c_5 (by omega)
    · exact absurd (Int64.not_le.mp c_4) ht
  · exact absurd rfl c_3
set_option maxHeartbeats 4000000 in
set_option maxRecDepth 100000 in
theorem m_active0 (l : Launch) (dC : Nat → ClassId) (dI : Nat → Nat → Nat) (y b1 b2 b3 b4 b5 b6 b7 b8 b9 b10 : Nat) (cI cJ cZ : ClassId) (th nD nR : Nat) (vs : Nat → Int64) (ac : Nat → Bool) (now : Int64) (o : Nat → Nat) (mt mw : Nat → Int64) (nv dl : Nat → Int64) (el : Nat) (rt rv : Nat → Int64) (mk : Nat → Bool) (zs : List ZT) (sz : Nat) (hI : wm_I nD nR el zs) (hZ : wz zs o mt mw) (q : Nat) (hq : q < 2 ^ 31) : Met l yX1_active wsX1_active ({ frames := 0, cells := 0, slots := 0, locals := 0 }) (va_Pc [.ref y, .int (nI q)] (fun U => U.heap.size = sz ∧ va_P (dC, dI) vwCl (wm y b1 b2 b3 b4 b5 b6 b7 b8 b9 b10 cI cJ cZ th nD nR vs ac now o mt mw zs.length nv dl el rt rv mk) U.heap ∧ va_K (dC, dI) vwCl [(cI, .int), (cJ, .long), (cZ, .boolean)] U ∧ va_D (fun _ => True) (wm y b1 b2 b3 b4 b5 b6 b7 b8 b9 b10 cI cJ cZ th nD nR vs ac now o mt mw zs.length nv dl el rt rv mk))) (va_Qi (fun (v : Int32) (_ : Unit) => v = wac ac q nD 0 0) (fun _ t9 => va_P (dC, dI) vwCl (wm y b1 b2 b3 b4 b5 b6 b7 b8 b9 b10 cI cJ cZ 0 nD nR vs ac now o mt mw zs.length nv dl el rt rv mk) t9.heap ∧ va_K (dC, dI) vwCl [(cI, .int), (cJ, .long), (cZ, .boolean)] t9 ∧ va_D (va_A (wm y b1 b2 b3 b4 b5 b6 b7 b8 b9 b10 cI cJ cZ th nD nR vs ac now o mt mw zs.length nv dl el rt rv mk) sz) (wm y b1 b2 b3 b4 b5 b6 b7 b8 b9 b10 cI cJ cZ 0 nD nR vs ac now o mt mw zs.length nv dl el rt rv mk)) (va_A (wm y b1 b2 b3 b4 b5 b6 b7 b8 b9 b10 cI cJ cZ th nD nR vs ac now o mt mw zs.length nv dl el rt rv mk) sz)) 0 0 (va_A (wm y b1 b2 b3 b4 b5 b6 b7 b8 b9 b10 cI cJ cZ th nD nR vs ac now o mt mw zs.length nv dl el rt rv mk) sz) := by
  refine Met.ofW (cc := cX1_active) (maxL := 4) (ret := (some .int)) (by decide) rfl ?_
  intro p e s m args below meth c s₁ B hml hv
  obtain ⟨rfl, hsz, hP, hK, hD0⟩ := hv
  subst hsz
  have hD := hD0.self (sz := s.heap.size)
  generalize hAe : va_A (wm y b1 b2 b3 b4 b5 b6 b7 b8 b9 b10 cI cJ cZ th nD nR vs ac now o mt mw zs.length nv dl el rt rv mk) s.heap.size = A at hD ⊢
  have hA : ∀ q : Nat, s.heap.size ≤ q → A q := fun q h => by rw [← hAe]; exact Or.inr h
  have hS : va_S A s.heap s.heap [] := va_S.rf
  have hx := B.exec
  have hb := B.bytes
  have hr := B.returns
  have hts := atoms_spec (ws := wsX1_active) B.pre
  have hown : s.vm.findClass RX1 = some m.cls := findClass_of_methodNamed B.named
  have hlocks := B.notSynchronized
  have hall := fun (w : Cond) (h : w ∈ allw) => hts w (List.mem_cons_of_mem _ h)
  have hl := lv_entry ([.ref y, .int (nI q)]) (n := 4) (Nat.le_of_ble_eq_true rfl)
  rw [lg_entry_eq]
  generalize (lg_sl ([.ref y, .int (nI q)]) ++ List.replicate (4 - (lg_sl ([.ref y, .int (nI q)])).length) Slot.unset).toArray = ls at hl ⊢
  have hl : lv_has ls 4 [(0, .ref y), (1, .int (nI q))] := hl
  obtain ⟨hnD1, hnD, hnR1, hnR, hzR, hel, how⟩ := hI
  refine lv_aload_n hx hb dX1_active_0 rfl (lv_at hl 0 rfl) ?_
  refine lv_iconst (v := 0) hx hb dX1_active_1 (by decide) ?_
  refine tp_i (y := nI 0) nI_0.symm ?_
  refine va_put (D := (dC, dI)) (ci := 1) (v := .int (nI 0)) (ty := .int) (C := RX1) (T := TX1) (N := 16) hx hb hall inX1 tyX1 tyX1_ok nmX1 hown hK hP hD hS 0 rfl rfl 0 (by decide) (hall _ kw_323) (fun _ h9 => h9) rfl (by decide +kernel) rfl rfl (Nat.le_of_ble_eq_true rfl) dX1_active_2 (fun H locs hP hD hS => ?_)
  have hP : va_P (dC, dI) vwCl [(y, .inr (1, [.int (nI 0), .int (nI nD), .int (nI nR), .ref b1, .ref b2, .long now, .ref b3, .ref b4, .ref b5, .int (nI zs.length), .ref b6, .ref b7, .int (nI el), .ref b8, .ref b9, .ref b10])), (b1, .inl (cJ, 512, .inr (.inl vs))), (b2, .inl (cZ, 512, .inl (fun j => bI (ac j)))), (b3, .inl (cI, 8192, .inl (fun j => nI (o j)))), (b4, .inl (cJ, 8192, .inr (.inl mt))), (b5, .inl (cJ, 8192, .inr (.inl mw))), (b6, .inl (cJ, 16, .inr (.inl nv))), (b7, .inl (cJ, 16, .inr (.inl dl))), (b8, .inl (cJ, 8208, .inr (.inl rt))), (b9, .inl (cJ, 8208, .inr (.inl rv))), (b10, .inl (cZ, 8208, .inl (fun j => bI (mk j))))] H := hP
  have hD : va_D A [(y, .inr (1, [.int (nI 0), .int (nI nD), .int (nI nR), .ref b1, .ref b2, .long now, .ref b3, .ref b4, .ref b5, .int (nI zs.length), .ref b6, .ref b7, .int (nI el), .ref b8, .ref b9, .ref b10])), (b1, .inl (cJ, 512, .inr (.inl vs))), (b2, .inl (cZ, 512, .inl (fun j => bI (ac j)))), (b3, .inl (cI, 8192, .inl (fun j => nI (o j)))), (b4, .inl (cJ, 8192, .inr (.inl mt))), (b5, .inl (cJ, 8192, .inr (.inl mw))), (b6, .inl (cJ, 16, .inr (.inl nv))), (b7, .inl (cJ, 16, .inr (.inl dl))), (b8, .inl (cJ, 8208, .inr (.inl rt))), (b9, .inl (cJ, 8208, .inr (.inl rv))), (b10, .inl (cZ, 8208, .inl (fun j => bI (mk j))))] := hD
  refine lv_iconst (v := 0) hx hb dX1_active_5 (by decide) ?_
  refine tp_i (y := nI 0) nI_0.symm ?_
  refine lv_istore_n (lv' := [(2, .int (nI 0)), (0, .ref y), (1, .int (nI q))]) hx hb dX1_active_6 rfl hl (by decide) rfl (fun ls hl => ?_)
  refine lv_iconst (v := 0) hx hb dX1_active_7 (by decide) ?_
  refine tp_i (y := nI 0) nI_0.symm ?_
  refine lv_istore_n (lv' := [(3, .int (nI 0)), (2, .int (nI 0)), (0, .ref y), (1, .int (nI q))]) hx hb dX1_active_8 rfl hl (by decide) rfl (fun ls hl => ?_)
  have hloop : ∀ (n k c0 : Nat) (ls : Array Slot), k + n = nD → c0 ≤ k → wac ac q n k c0 = wac ac q nD 0 0 → lv_has ls 4 [(0, .ref y), (1, .int (nI q)), (2, .int (nI c0)), (3, .int (nI k))] → W p l e (headSpec wsX1_active ({ frames := 0, cells := 0, slots := 0, locals := 0 })).room s m (([.ref y, .int (nI q)] : List Value).toArray) below meth c H locs 0 0 (MQ below (va_Qi (fun (v : Int32) (_ : Unit) => v = wac ac q nD 0 0) (fun _ t9 => va_P (dC, dI) vwCl (wm y b1 b2 b3 b4 b5 b6 b7 b8 b9 b10 cI cJ cZ 0 nD nR vs ac now o mt mw zs.length nv dl el rt rv mk) t9.heap ∧ va_K (dC, dI) vwCl [(cI, .int), (cJ, .long), (cZ, .boolean)] t9 ∧ va_D A (wm y b1 b2 b3 b4 b5 b6 b7 b8 b9 b10 cI cJ cZ 0 nD nR vs ac now o mt mw zs.length nv dl el rt rv mk)) A) (([.ref y, .int (nI q)] : List Value).toArray) s 0 0 A) (F0 m 9 ls []) := by
    intro n
    induction n with
    | zero =>
      intro k c0 ls hk hck hw hl
      refine lv_iload_n hx hb dX1_active_9 rfl (lv_at hl 3 rfl) ?_
      refine lv_aload_n hx hb dX1_active_10 rfl (lv_at hl 0 rfl) ?_
      refine va_get (D := (dC, dI)) (ci := 1) (v := .int (nI nD)) (C := RX1) (T := TX1) (N := 16) hx hb hall inX1 hown hK hP 0 rfl rfl 1 (by decide) (hall _ kw_324) (fun _ h9 => h9) rfl dX1_active_11 ?_
      refine xc_ge (tgt := 46) hx hb (by omega) (by omega) dX1_active_14 (by decide) (fun c_1 => ?_) (fun c_1 => ?_)
      · refine lv_iconst (v := (-1)) hx hb dX1_active_46 (by decide) ?_
        exact W.iret (v := (-1)) hx hb hr (fun t9 ht hW => ⟨⟨(-1), (), rfl, by rw [← hw]; rfl, by rw [ht]; exact hP, va_K.moved hW.alike hK, hD⟩, hS.F ht⟩) hS.2.2 dX1_active_47
      · exact absurd c_1 (by omega)
    | succ n ih =>
      intro k c0 ls hk hck hw hl
      refine lv_iload_n hx hb dX1_active_9 rfl (lv_at hl 3 rfl) ?_
      refine lv_aload_n hx hb dX1_active_10 rfl (lv_at hl 0 rfl) ?_
      refine va_get (D := (dC, dI)) (ci := 1) (v := .int (nI nD)) (C := RX1) (T := TX1) (N := 16) hx hb hall inX1 hown hK hP 0 rfl rfl 1 (by decide) (hall _ kw_324) (fun _ h9 => h9) rfl dX1_active_11 ?_
      refine xc_ge (tgt := 46) hx hb (by omega) (by omega) dX1_active_14 (by decide) (fun c_2 => ?_) (fun c_2 => ?_)
      · exact absurd c_2 (by omega)
      · refine lv_iload_n hx hb dX1_active_17 rfl (lv_at hl 1 rfl) ?_
        refine lv_if_lt (tgt := 46) hx hb dX1_active_18 (by decide) (fun c_3 => ?_) (fun c_3 => ?_)
        · exact absurd c_3 (nI_pos (by omega))
        · refine lv_aload_n hx hb dX1_active_21 rfl (lv_at hl 0 rfl) ?_
          refine va_get (D := (dC, dI)) (ci := 1) (v := .ref b2) (C := RX1) (T := TX1) (N := 16) hx hb hall inX1 hown hK hP 0 rfl rfl 4 (by decide) (hall _ kw_327) (fun _ h9 => h9) rfl dX1_active_22 ?_
          refine lv_iload_n hx hb dX1_active_25 rfl (lv_at hl 3 rfl) ?_
          refine xa_zald hx hb hK hP 2 2 rfl rfl (by omega) (by omega) dX1_active_26 ?_
          refine xb_eq (tgt := 40) hx hb dX1_active_27 (by decide) (fun c_4 => ?_) (fun c_4 => ?_)
          · have c_A := c_4
            refine lv_iinc (v := nI (k + 1)) (lv' := [(3, .int (nI (k + 1))), (0, .ref y), (1, .int (nI q)), (2, .int (nI c0))]) hx hb dX1_active_40 hl (k := 3) rfl (nI_1 k) (by decide) rfl (fun ls hl => ?_)
            refine lv_goto (tgt := 9) hx hb dX1_active_43 (by decide) ?_
            exact ih (k + 1) (c0) ls (by omega) (by omega) (by rw [← hw]; show _ = if ac k = true then _ else _; rw [if_neg (by rw [c_A]; decide)]) (lv_sub hl [1, 2, 3, 0] rfl)
          · have c_A := c_4
            refine lv_iload_n hx hb dX1_active_30 rfl (lv_at hl 2 rfl) ?_
            refine lv_iload_n hx hb dX1_active_31 rfl (lv_at hl 1 rfl) ?_
            refine xc_ne (tgt := 37) hx hb (by omega) (by omega) dX1_active_32 (by decide) (fun c_5 => ?_) (fun c_5 => ?_)
            · have c_B := c_5
              refine lv_iinc (v := nI (c0 + 1)) (lv' := [(2, .int (nI (c0 + 1))), (0, .ref y), (1, .int (nI q)), (3, .int (nI k))]) hx hb dX1_active_37 hl (k := 2) rfl (nI_1 c0) (by decide) rfl (fun ls hl => ?_)
              refine lv_iinc (v := nI (k + 1)) (lv' := [(3, .int (nI (k + 1))), (2, .int (nI (c0 + 1))), (0, .ref y), (1, .int (nI q))]) hx hb dX1_active_40 hl (k := 3) rfl (nI_1 k) (by decide) rfl (fun ls hl => ?_)
              refine lv_goto (tgt := 9) hx hb dX1_active_43 (by decide) ?_
              exact ih (k + 1) (c0 + 1) ls (by omega) (by omega) (by rw [← hw]; show _ = if ac k = true then _ else _; rw [if_pos c_A, if_neg c_B]) (lv_sub hl [2, 3, 1, 0] rfl)
            · have c_B := c_5
              refine lv_iload_n hx hb dX1_active_35 rfl (lv_at hl 3 rfl) ?_
              exact W.iret (v := nI k) hx hb hr (fun t9 ht hW => ⟨⟨nI k, (), rfl, by rw [← hw]; show _ = if ac k = true then _ else _; rw [if_pos c_A, if_pos c_B], by rw [ht]; exact hP, va_K.moved hW.alike hK, hD⟩, hS.F ht⟩) hS.2.2 dX1_active_36
  exact hloop nD 0 0 ls (by omega) (by omega) rfl (lv_sub hl [2, 3, 1, 0] rfl)
set_option maxHeartbeats 4000000 in
set_option maxRecDepth 100000 in
theorem m_active1 (l : Launch) (dC : Nat → ClassId) (dI : Nat → Nat → Nat) (y b1 b2 b3 b4 b5 b6 b7 b8 b9 b10 : Nat) (cI cJ cZ : ClassId) (th nD nR : Nat) (vs : Nat → Int64) (ac : Nat → Bool) (now : Int64) (o : Nat → Nat) (mt mw : Nat → Int64) (nv dl : Nat → Int64) (el : Nat) (rt rv : Nat → Int64) (mk : Nat → Bool) (zs : List ZT) (sz : Nat) (hI : wm_I nD nR el zs) (hZ : wz zs o mt mw) (i : Int32) (hi : i < 0) : Met l yX1_active wsX1_active ({ frames := 0, cells := 0, slots := 0, locals := 0 }) (va_Pc [.ref y, .int i] (fun U => U.heap.size = sz ∧ va_P (dC, dI) vwCl (wm y b1 b2 b3 b4 b5 b6 b7 b8 b9 b10 cI cJ cZ th nD nR vs ac now o mt mw zs.length nv dl el rt rv mk) U.heap ∧ va_K (dC, dI) vwCl [(cI, .int), (cJ, .long), (cZ, .boolean)] U ∧ va_D (fun _ => True) (wm y b1 b2 b3 b4 b5 b6 b7 b8 b9 b10 cI cJ cZ th nD nR vs ac now o mt mw zs.length nv dl el rt rv mk))) (va_Qi (fun (v : Int32) (_ : Unit) => v = -1) (fun _ t9 => va_P (dC, dI) vwCl (wm y b1 b2 b3 b4 b5 b6 b7 b8 b9 b10 cI cJ cZ 0 nD nR vs ac now o mt mw zs.length nv dl el rt rv mk) t9.heap ∧ va_K (dC, dI) vwCl [(cI, .int), (cJ, .long), (cZ, .boolean)] t9 ∧ va_D (va_A (wm y b1 b2 b3 b4 b5 b6 b7 b8 b9 b10 cI cJ cZ th nD nR vs ac now o mt mw zs.length nv dl el rt rv mk) sz) (wm y b1 b2 b3 b4 b5 b6 b7 b8 b9 b10 cI cJ cZ 0 nD nR vs ac now o mt mw zs.length nv dl el rt rv mk)) (va_A (wm y b1 b2 b3 b4 b5 b6 b7 b8 b9 b10 cI cJ cZ th nD nR vs ac now o mt mw zs.length nv dl el rt rv mk) sz)) 0 0 (va_A (wm y b1 b2 b3 b4 b5 b6 b7 b8 b9 b10 cI cJ cZ th nD nR vs ac now o mt mw zs.length nv dl el rt rv mk) sz) := by
  refine Met.ofW (cc := cX1_active) (maxL := 4) (ret := (some .int)) (by decide) rfl ?_
  intro p e s m args below meth c s₁ B hml hv
  obtain ⟨rfl, hsz, hP, hK, hD0⟩ := hv
  subst hsz
  have hD := hD0.self (sz := s.heap.size)
  generalize hAe : va_A (wm y b1 b2 b3 b4 b5 b6 b7 b8 b9 b10 cI cJ cZ th nD nR vs ac now o mt mw zs.length nv dl el rt rv mk) s.heap.size = A at hD ⊢
  have hA : ∀ q : Nat, s.heap.size ≤ q → A q := fun q h => by rw [← hAe]; exact Or.inr h
  have hS : va_S A s.heap s.heap [] := va_S.rf
  have hx := B.exec
  have hb := B.bytes
  have hr := B.returns
  have hts := atoms_spec (ws := wsX1_active) B.pre
  have hown : s.vm.findClass RX1 = some m.cls := findClass_of_methodNamed B.named
  have hlocks := B.notSynchronized
  have hall := fun (w : Cond) (h : w ∈ allw) => hts w (List.mem_cons_of_mem _ h)
  have hl := lv_entry ([.ref y, .int i]) (n := 4) (Nat.le_of_ble_eq_true rfl)
  rw [lg_entry_eq]
  generalize (lg_sl ([.ref y, .int i]) ++ List.replicate (4 - (lg_sl ([.ref y, .int i])).length) Slot.unset).toArray = ls at hl ⊢
  have hl : lv_has ls 4 [(0, .ref y), (1, .int i)] := hl
  obtain ⟨hnD1, hnD, hnR1, hnR, hzR, hel, how⟩ := hI
  refine lv_aload_n hx hb dX1_active_0 rfl (lv_at hl 0 rfl) ?_
  refine lv_iconst (v := 0) hx hb dX1_active_1 (by decide) ?_
  refine tp_i (y := nI 0) nI_0.symm ?_
  refine va_put (D := (dC, dI)) (ci := 1) (v := .int (nI 0)) (ty := .int) (C := RX1) (T := TX1) (N := 16) hx hb hall inX1 tyX1 tyX1_ok nmX1 hown hK hP hD hS 0 rfl rfl 0 (by decide) (hall _ kw_323) (fun _ h9 => h9) rfl (by decide +kernel) rfl rfl (Nat.le_of_ble_eq_true rfl) dX1_active_2 (fun H locs hP hD hS => ?_)
  have hP : va_P (dC, dI) vwCl [(y, .inr (1, [.int (nI 0), .int (nI nD), .int (nI nR), .ref b1, .ref b2, .long now, .ref b3, .ref b4, .ref b5, .int (nI zs.length), .ref b6, .ref b7, .int (nI el), .ref b8, .ref b9, .ref b10])), (b1, .inl (cJ, 512, .inr (.inl vs))), (b2, .inl (cZ, 512, .inl (fun j => bI (ac j)))), (b3, .inl (cI, 8192, .inl (fun j => nI (o j)))), (b4, .inl (cJ, 8192, .inr (.inl mt))), (b5, .inl (cJ, 8192, .inr (.inl mw))), (b6, .inl (cJ, 16, .inr (.inl nv))), (b7, .inl (cJ, 16, .inr (.inl dl))), (b8, .inl (cJ, 8208, .inr (.inl rt))), (b9, .inl (cJ, 8208, .inr (.inl rv))), (b10, .inl (cZ, 8208, .inl (fun j => bI (mk j))))] H := hP
  have hD : va_D A [(y, .inr (1, [.int (nI 0), .int (nI nD), .int (nI nR), .ref b1, .ref b2, .long now, .ref b3, .ref b4, .ref b5, .int (nI zs.length), .ref b6, .ref b7, .int (nI el), .ref b8, .ref b9, .ref b10])), (b1, .inl (cJ, 512, .inr (.inl vs))), (b2, .inl (cZ, 512, .inl (fun j => bI (ac j)))), (b3, .inl (cI, 8192, .inl (fun j => nI (o j)))), (b4, .inl (cJ, 8192, .inr (.inl mt))), (b5, .inl (cJ, 8192, .inr (.inl mw))), (b6, .inl (cJ, 16, .inr (.inl nv))), (b7, .inl (cJ, 16, .inr (.inl dl))), (b8, .inl (cJ, 8208, .inr (.inl rt))), (b9, .inl (cJ, 8208, .inr (.inl rv))), (b10, .inl (cZ, 8208, .inl (fun j => bI (mk j))))] := hD
  refine lv_iconst (v := 0) hx hb dX1_active_5 (by decide) ?_
  refine tp_i (y := nI 0) nI_0.symm ?_
  refine lv_istore_n (lv' := [(2, .int (nI 0)), (0, .ref y), (1, .int i)]) hx hb dX1_active_6 rfl hl (by decide) rfl (fun ls hl => ?_)
  refine lv_iconst (v := 0) hx hb dX1_active_7 (by decide) ?_
  refine tp_i (y := nI 0) nI_0.symm ?_
  refine lv_istore_n (lv' := [(3, .int (nI 0)), (2, .int (nI 0)), (0, .ref y), (1, .int i)]) hx hb dX1_active_8 rfl hl (by decide) rfl (fun ls hl => ?_)
  refine lv_iload_n hx hb dX1_active_9 rfl (lv_at hl 0 rfl) ?_
  refine lv_aload_n hx hb dX1_active_10 rfl (lv_at hl 2 rfl) ?_
  refine va_get (D := (dC, dI)) (ci := 1) (v := .int (nI nD)) (C := RX1) (T := TX1) (N := 16) hx hb hall inX1 hown hK hP 0 rfl rfl 1 (by decide) (hall _ kw_324) (fun _ h9 => h9) rfl dX1_active_11 ?_
  refine xc_ge (tgt := 46) hx hb (by omega) (by omega) dX1_active_14 (by decide) (fun c_1 => ?_) (fun c_1 => ?_)
  · refine lv_iconst (v := (-1)) hx hb dX1_active_46 (by decide) ?_
    exact W.iret (v := (-1)) hx hb hr (fun t9 ht hW => ⟨⟨(-1), (), rfl, rfl, by rw [ht]; exact hP, va_K.moved hW.alike hK, hD⟩, hS.F ht⟩) hS.2.2 dX1_active_47
  · refine lv_iload_n hx hb dX1_active_17 rfl (lv_at hl 3 rfl) ?_
    refine lv_if_lt (tgt := 46) hx hb dX1_active_18 (by decide) (fun c_2 => ?_) (fun c_2 => ?_)
    · refine lv_iconst (v := (-1)) hx hb dX1_active_46 (by decide) ?_
      exact W.iret (v := (-1)) hx hb hr (fun t9 ht hW => ⟨⟨(-1), (), rfl, rfl, by rw [ht]; exact hP, va_K.moved hW.alike hK, hD⟩, hS.F ht⟩) hS.2.2 dX1_active_47
    · exact absurd hi c_2
end
section
/-! the reference's list, when entries are pushed, taken away, marked -/
theorem wz_push {F : List ZT} {oc : Nat → Nat} {tc vc : Nat → Int64} (z : ZT) (h : wz F oc tc vc) : wz (F ++ [z]) (un oc F.length z.1) (vp_updL tc F.length z.2.1) (vp_updL vc F.length z.2.2) := by
  intro j e he
  by_cases q : j = F.length
  · subst q
    rw [List.getElem?_append_right (Nat.le_refl _), Nat.sub_self] at he
    cases he
    exact ⟨if_pos rfl, pk_uLs, pk_uLs⟩
  · have hj : j < F.length := by
      have h1 := (List.getElem?_eq_some_iff.mp he).1
      rw [List.length_append] at h1
      simp at h1
      omega
    rw [List.getElem?_append_left hj] at he
    obtain ⟨h1, h2, h3⟩ := h j e he
    exact ⟨(if_neg q).trans h1, (pk_uLn q).trans h2, (pk_uLn q).trans h3⟩
theorem wz_len {α : Type} (F : List α) (z : α) : (F ++ [z]).length = F.length + 1 := by simp
/-- those of the other drivers -/
def wot (d : Nat) (zs : List ZT) : List ZT := zs.filter (fun z => decide (¬ z.1 = d))
theorem wot_skip {d : Nat} {z : ZT} {tl : List ZT} (h : z.1 = d) : wot d (z :: tl) = wot d tl := by
  unfold wot
  rw [List.filter_cons_of_neg (by simp [h])]
theorem wot_take {d : Nat} {z : ZT} {tl : List ZT} (h : ¬ z.1 = d) : wot d (z :: tl) = z :: wot d tl := by
  unfold wot
  rw [List.filter_cons_of_pos (by simp [h])]
/-- the marked ones of n rows from k on, as a driver's transactions -/
def wmk (d : Nat) (rt rv : Nat → Int64) (mk : Nat → Bool) : Nat → Nat → List ZT
  | 0, _ => []
  | n + 1, k => if mk k = true then (d, rt k, rv k) :: wmk d rt rv mk n (k + 1) else wmk d rt rv mk n (k + 1)
/-- those behind t -/
def wla (t : Int64) (zs : List ZT) : List ZT := zs.filter (fun z => decide (t < z.2.1))
theorem wla_skip {t : Int64} {z : ZT} {tl : List ZT} (h : ¬ t < z.2.1) : wla t (z :: tl) = wla t tl := by
  unfold wla
  rw [List.filter_cons_of_neg (by simp [h])]
theorem wla_take {t : Int64} {z : ZT} {tl : List ZT} (h : t < z.2.1) : wla t (z :: tl) = z :: wla t tl := by
  unfold wla
  rw [List.filter_cons_of_pos (by simp [h])]
def wvs (t : Int64) : List ZT → (Nat → Int64) → (Nat → Int64)
  | [], f => f
  | z :: tl, f => wvs t tl (if t < z.2.1 then f else vp_updL f z.1 z.2.2)
def was (t : Int64) : List ZT → (Nat → Bool) → (Nat → Bool)
  | [], f => f
  | z :: tl, f => was t tl (if t < z.2.1 then f else ub f z.1 true)
def wfl (ac : Nat → Bool) (k : Nat) : Nat → Bool := fun j => if j < k then false else ac j
theorem wfl_0 (ac : Nat → Bool) : wfl ac 0 = ac := by
  funext j
  exact if_neg (Nat.not_lt_zero j)
theorem wfl_s (ac : Nat → Bool) (k : Nat) : ub (wfl ac k) k false = wfl ac (k + 1) := by
  funext j
  unfold ub wfl
  by_cases h : j = k
  · subst h; rw [if_pos rfl, if_pos (by omega)]
  · rw [if_neg h]
    by_cases h2 : j < k
    · rw [if_pos h2, if_pos (by omega)]
    · rw [if_neg h2, if_neg (by omega)]
def wcn (ac : Nat → Bool) : Nat → Nat → Nat
  | 0, _ => 0
  | n + 1, d => (if ac d = true then 1 else 0) + wcn ac n (d + 1)
theorem wot_len (d : Nat) (zs : List ZT) : (wot d zs).length ≤ zs.length := List.length_filter_le _ _
theorem wla_len (t : Int64) (zs : List ZT) : (wla t zs).length ≤ zs.length := List.length_filter_le _ _
end
section
set_option maxHeartbeats 4000000 in
set_option maxRecDepth 100000 in
theorem m_replace (l : Launch) (dC : Nat → ClassId) (dI : Nat → Nat → Nat) (y b1 b2 b3 b4 b5 b6 b7 b8 b9 b10 : Nat) (cI cJ cZ : ClassId) (th nD nR : Nat) (vs : Nat → Int64) (ac : Nat → Bool) (now : Int64) (o : Nat → Nat) (mt mw : Nat → Int64) (nv dl : Nat → Int64) (el : Nat) (rt rv : Nat → Int64) (mk : Nat → Bool) (zs : List ZT) (sz : Nat) (hI : wm_I nD nR el zs) (hZ : wz zs o mt mw) (d : Nat) (hd : d < nD) (n0 : Nat) (hn0 : n0 ≤ 8208) (hfit : (wot d zs ++ wmk d rt rv mk n0 0).length ≤ 8192) : Met l yX1_replace wsX1_replace ({ frames := 0, cells := 0, slots := 0, locals := 0 }) (va_Pc [.ref y, .int (nI d), .int (nI n0)] (fun U => U.heap.size = sz ∧ va_P (dC, dI) vwCl (wm y b1 b2 b3 b4 b5 b6 b7 b8 b9 b10 cI cJ cZ th nD nR vs ac now o mt mw zs.length nv dl el rt rv mk) U.heap ∧ va_K (dC, dI) vwCl [(cI, .int), (cJ, .long), (cZ, .boolean)] U ∧ va_D (fun _ => True) (wm y b1 b2 b3 b4 b5 b6 b7 b8 b9 b10 cI cJ cZ th nD nR vs ac now o mt mw zs.length nv dl el rt rv mk))) (va_Qv (fun _ : Unit => True) (fun _ t9 => ∃ (o9 : Nat → Nat) (t8 w9 : Nat → Int64), wz (wot d zs ++ wmk d rt rv mk n0 0) o9 t8 w9 ∧ va_P (dC, dI) vwCl (wm y b1 b2 b3 b4 b5 b6 b7 b8 b9 b10 cI cJ cZ th nD nR vs ac now o9 t8 w9 ((wot d zs ++ wmk d rt rv mk n0 0).length) nv dl el rt rv mk) t9.heap ∧ va_K (dC, dI) vwCl [(cI, .int), (cJ, .long), (cZ, .boolean)] t9 ∧ va_D (va_A (wm y b1 b2 b3 b4 b5 b6 b7 b8 b9 b10 cI cJ cZ th nD nR vs ac now o mt mw zs.length nv dl el rt rv mk) sz) (wm y b1 b2 b3 b4 b5 b6 b7 b8 b9 b10 cI cJ cZ th nD nR vs ac now o9 t8 w9 ((wot d zs ++ wmk d rt rv mk n0 0).length) nv dl el rt rv mk)) (va_A (wm y b1 b2 b3 b4 b5 b6 b7 b8 b9 b10 cI cJ cZ th nD nR vs ac now o mt mw zs.length nv dl el rt rv mk) sz)) 0 0 (va_A (wm y b1 b2 b3 b4 b5 b6 b7 b8 b9 b10 cI cJ cZ th nD nR vs ac now o mt mw zs.length nv dl el rt rv mk) sz) := by
  refine Met.ofW (cc := cX1_replace) (maxL := 5) (ret := none) (by decide) rfl ?_
  intro p e s m args below meth c s₁ B hml hv
  obtain ⟨rfl, hsz, hP, hK, hD0⟩ := hv
  subst hsz
  have hD := hD0.self (sz := s.heap.size)
  generalize hAe : va_A (wm y b1 b2 b3 b4 b5 b6 b7 b8 b9 b10 cI cJ cZ th nD nR vs ac now o mt mw zs.length nv dl el rt rv mk) s.heap.size = A at hD ⊢
  have hA : ∀ q : Nat, s.heap.size ≤ q → A q := fun q h => by rw [← hAe]; exact Or.inr h
  have hS : va_S A s.heap s.heap [] := va_S.rf
  have hx := B.exec
  have hb := B.bytes
  have hr := B.returns
  have hts := atoms_spec (ws := wsX1_replace) B.pre
  have hown : s.vm.findClass RX1 = some m.cls := findClass_of_methodNamed B.named
  have hlocks := B.notSynchronized
  have hall := fun (w : Cond) (h : w ∈ allw) => hts w (List.mem_cons_of_mem _ h)
  have hl := lv_entry ([.ref y, .int (nI d), .int (nI n0)]) (n := 5) (Nat.le_of_ble_eq_true rfl)
  rw [lg_entry_eq]
  generalize (lg_sl ([.ref y, .int (nI d), .int (nI n0)]) ++ List.replicate (5 - (lg_sl ([.ref y, .int (nI d), .int (nI n0)])).length) Slot.unset).toArray = ls at hl ⊢
  have hl : lv_has ls 5 [(0, .ref y), (1, .int (nI d)), (2, .int (nI n0))] := hl
  obtain ⟨hnD1, hnD, hnR1, hnR, hzR, hel, how⟩ := hI
  refine lv_iconst (v := 0) hx hb dX1_replace_0 (by decide) ?_
  refine tp_i (y := nI 0) nI_0.symm ?_
  refine lv_istore_n (lv' := [(3, .int (nI 0)), (0, .ref y), (1, .int (nI d)), (2, .int (nI n0))]) hx hb dX1_replace_1 rfl hl (by decide) rfl (fun ls hl => ?_)
  refine lv_iconst (v := 0) hx hb dX1_replace_2 (by decide) ?_
  refine tp_i (y := nI 0) nI_0.symm ?_
  refine lv_istore (lv' := [(4, .int (nI 0)), (3, .int (nI 0)), (0, .ref y), (1, .int (nI d)), (2, .int (nI n0))]) hx hb dX1_replace_3 hl (by decide) rfl (fun ls hl => ?_)
  have hloop2 : ∀ (n k : Nat) (G : List ZT) (oc : Nat → Nat) (tc vc : Nat → Int64) (H : Heap) (locs : List Loc) (ls : Array Slot), k + n = n0 → wz G oc tc vc → G ++ wmk d rt rv mk n k = wot d zs ++ wmk d rt rv mk n0 0 → va_P (dC, dI) vwCl [(y, .inr (1, [.int (nI th), .int (nI nD), .int (nI nR), .ref b1, .ref b2, .long now, .ref b3, .ref b4, .ref b5, .int (nI G.length), .ref b6, .ref b7, .int (nI el), .ref b8, .ref b9, .ref b10])), (b1, .inl (cJ, 512, .inr (.inl vs))), (b2, .inl (cZ, 512, .inl (fun j => bI (ac j)))), (b3, .inl (cI, 8192, .inl (fun j => nI (oc j)))), (b4, .inl (cJ, 8192, .inr (.inl tc))), (b5, .inl (cJ, 8192, .inr (.inl vc))), (b6, .inl (cJ, 16, .inr (.inl nv))), (b7, .inl (cJ, 16, .inr (.inl dl))), (b8, .inl (cJ, 8208, .inr (.inl rt))), (b9, .inl (cJ, 8208, .inr (.inl rv))), (b10, .inl (cZ, 8208, .inl (fun j => bI (mk j))))] H → va_D A [(y, .inr (1, [.int (nI th), .int (nI nD), .int (nI nR), .ref b1, .ref b2, .long now, .ref b3, .ref b4, .ref b5, .int (nI G.length), .ref b6, .ref b7, .int (nI el), .ref b8, .ref b9, .ref b10])), (b1, .inl (cJ, 512, .inr (.inl vs))), (b2, .inl (cZ, 512, .inl (fun j => bI (ac j)))), (b3, .inl (cI, 8192, .inl (fun j => nI (oc j)))), (b4, .inl (cJ, 8192, .inr (.inl tc))), (b5, .inl (cJ, 8192, .inr (.inl vc))), (b6, .inl (cJ, 16, .inr (.inl nv))), (b7, .inl (cJ, 16, .inr (.inl dl))), (b8, .inl (cJ, 8208, .inr (.inl rt))), (b9, .inl (cJ, 8208, .inr (.inl rv))), (b10, .inl (cZ, 8208, .inl (fun j => bI (mk j))))] → va_S A s.heap H locs → lv_has ls 5 [(0, .ref y), (1, .int (nI d)), (2, .int (nI n0)), (4, .int (nI k))] → W p l e (headSpec wsX1_replace ({ frames := 0, cells := 0, slots := 0, locals := 0 })).room s m (([.ref y, .int (nI d), .int (nI n0)] : List Value).toArray) below meth c H locs 0 0 (MQ below (va_Qv (fun _ : Unit => True) (fun _ t9 => ∃ (o9 : Nat → Nat) (t8 w9 : Nat → Int64), wz (wot d zs ++ wmk d rt rv mk n0 0) o9 t8 w9 ∧ va_P (dC, dI) vwCl (wm y b1 b2 b3 b4 b5 b6 b7 b8 b9 b10 cI cJ cZ th nD nR vs ac now o9 t8 w9 ((wot d zs ++ wmk d rt rv mk n0 0).length) nv dl el rt rv mk) t9.heap ∧ va_K (dC, dI) vwCl [(cI, .int), (cJ, .long), (cZ, .boolean)] t9 ∧ va_D A (wm y b1 b2 b3 b4 b5 b6 b7 b8 b9 b10 cI cJ cZ th nD nR vs ac now o9 t8 w9 ((wot d zs ++ wmk d rt rv mk n0 0).length) nv dl el rt rv mk)) A) (([.ref y, .int (nI d), .int (nI n0)] : List Value).toArray) s 0 0 A) (F0 m 81 ls []) := by
    intro n
    induction n with
    | zero =>
      intro k G oc tc vc H locs ls hk hG hE hP hD hS hl
      obtain rfl : G = wot d zs ++ wmk d rt rv mk n0 0 := (List.append_nil G).symm.trans hE
      refine lv_iload hx hb dX1_replace_81 (lv_at hl 3 rfl) ?_
      refine lv_iload_n hx hb dX1_replace_83 rfl (lv_at hl 2 rfl) ?_
      refine xc_ge (tgt := 155) hx hb (by omega) (by omega) dX1_replace_84 (by decide) (fun c_1 => ?_) (fun c_1 => ?_)
      · exact W.vret hx hb hr (fun t9 ht hW => ⟨⟨(), rfl, trivial, oc, tc, vc, hG, by rw [ht]; exact hP, va_K.moved hW.alike hK, hD⟩, hS.F ht⟩) hS.2.2 dX1_replace_155
      · exact absurd c_1 (by omega)
    | succ n ih =>
      intro k G oc tc vc H locs ls hk hG hE hP hD hS hl
      refine lv_iload hx hb dX1_replace_81 (lv_at hl 3 rfl) ?_
      refine lv_iload_n hx hb dX1_replace_83 rfl (lv_at hl 2 rfl) ?_
      refine xc_ge (tgt := 155) hx hb (by omega) (by omega) dX1_replace_84 (by decide) (fun c_2 => ?_) (fun c_2 => ?_)
      · exact absurd c_2 (by omega)
      · refine lv_aload_n hx hb dX1_replace_87 rfl (lv_at hl 0 rfl) ?_
        refine va_get (D := (dC, dI)) (ci := 1) (v := .ref b10) (C := RX1) (T := TX1) (N := 16) hx hb hall inX1 hown hK hP 0 rfl rfl 15 (by decide) (hall _ kw_338) (fun _ h9 => h9) rfl dX1_replace_88 ?_
        refine lv_iload hx hb dX1_replace_91 (lv_at hl 3 rfl) ?_
        refine xa_zald hx hb hK hP 10 2 rfl rfl (by omega) (by omega) dX1_replace_93 ?_
        refine xb_eq (tgt := 149) hx hb dX1_replace_94 (by decide) (fun c_3 => ?_) (fun c_3 => ?_)
        · have c_A := c_3
          refine lv_iinc (v := nI (k + 1)) (lv' := [(4, .int (nI (k + 1))), (0, .ref y), (1, .int (nI d)), (2, .int (nI n0))]) hx hb dX1_replace_149 hl (k := 3) rfl (nI_1 k) (by decide) rfl (fun ls hl => ?_)
          refine lv_goto (tgt := 81) hx hb dX1_replace_152 (by decide) ?_
          exact ih (k + 1) G oc tc vc H locs ls (by omega) hG (by rw [← hE]; show _ = G ++ (if mk k = true then _ else _); rw [if_neg (by rw [c_A]; decide)]) hP hD hS (lv_sub hl [1, 2, 3, 0] rfl)
        · have c_A := c_3
          have hE2 : G ++ (d, rt k, rv k) :: wmk d rt rv mk n (k + 1) = wot d zs ++ wmk d rt rv mk n0 0 := by rw [← hE]; show _ = G ++ (if mk k = true then _ else _); rw [if_pos c_A]
          have hGl : G.length < 8192 := by have := congrArg List.length hE2; rw [List.length_append, List.length_cons] at this; omega
          refine lv_aload_n hx hb dX1_replace_97 rfl (lv_at hl 0 rfl) ?_
          refine va_get (D := (dC, dI)) (ci := 1) (v := .ref b3) (C := RX1) (T := TX1) (N := 16) hx hb hall inX1 hown hK hP 0 rfl rfl 6 (by decide) (hall _ kw_329) (fun _ h9 => h9) rfl dX1_replace_98 ?_
          refine lv_aload_n hx hb dX1_replace_101 rfl (lv_at hl 0 rfl) ?_
          refine va_get (D := (dC, dI)) (ci := 1) (v := .int (nI G.length)) (C := RX1) (T := TX1) (N := 16) hx hb hall inX1 hown hK hP 0 rfl rfl 9 (by decide) (hall _ kw_332) (fun _ h9 => h9) rfl dX1_replace_102 ?_
          refine lv_iload_n hx hb dX1_replace_105 rfl (lv_at hl 1 rfl) ?_
          refine xa_iast hx hb hK hP hD hS 3 0 rfl rfl (by omega) (by omega) dX1_replace_106 (fun H locs hP hD hS => ?_)
          have hP : va_P (dC, dI) vwCl [(y, .inr (1, [.int (nI th), .int (nI nD), .int (nI nR), .ref b1, .ref b2, .long now, .ref b3, .ref b4, .ref b5, .int (nI G.length), .ref b6, .ref b7, .int (nI el), .ref b8, .ref b9, .ref b10])), (b1, .inl (cJ, 512, .inr (.inl vs))), (b2, .inl (cZ, 512, .inl (fun j => bI (ac j)))), (b3, .inl (cI, 8192, .inl (upd (fun j => nI (oc j)) G.length (nI d)))), (b4, .inl (cJ, 8192, .inr (.inl tc))), (b5, .inl (cJ, 8192, .inr (.inl vc))), (b6, .inl (cJ, 16, .inr (.inl nv))), (b7, .inl (cJ, 16, .inr (.inl dl))), (b8, .inl (cJ, 8208, .inr (.inl rt))), (b9, .inl (cJ, 8208, .inr (.inl rv))), (b10, .inl (cZ, 8208, .inl (fun j => bI (mk j))))] H := hP
          have hD : va_D A [(y, .inr (1, [.int (nI th), .int (nI nD), .int (nI nR), .ref b1, .ref b2, .long now, .ref b3, .ref b4, .ref b5, .int (nI G.length), .ref b6, .ref b7, .int (nI el), .ref b8, .ref b9, .ref b10])), (b1, .inl (cJ, 512, .inr (.inl vs))), (b2, .inl (cZ, 512, .inl (fun j => bI (ac j)))), (b3, .inl (cI, 8192, .inl (upd (fun j => nI (oc j)) G.length (nI d)))), (b4, .inl (cJ, 8192, .inr (.inl tc))), (b5, .inl (cJ, 8192, .inr (.inl vc))), (b6, .inl (cJ, 16, .inr (.inl nv))), (b7, .inl (cJ, 16, .inr (.inl dl))), (b8, .inl (cJ, 8208, .inr (.inl rt))), (b9, .inl (cJ, 8208, .inr (.inl rv))), (b10, .inl (cZ, 8208, .inl (fun j => bI (mk j))))] := hD
          rw [un_nI] at hP hD
          refine lv_aload_n hx hb dX1_replace_107 rfl (lv_at hl 0 rfl) ?_
          refine va_get (D := (dC, dI)) (ci := 1) (v := .ref b4) (C := RX1) (T := TX1) (N := 16) hx hb hall inX1 hown hK hP 0 rfl rfl 7 (by decide) (hall _ kw_330) (fun _ h9 => h9) rfl dX1_replace_108 ?_
          refine lv_aload_n hx hb dX1_replace_111 rfl (lv_at hl 0 rfl) ?_
          refine va_get (D := (dC, dI)) (ci := 1) (v := .int (nI G.length)) (C := RX1) (T := TX1) (N := 16) hx hb hall inX1 hown hK hP 0 rfl rfl 9 (by decide) (hall _ kw_332) (fun _ h9 => h9) rfl dX1_replace_112 ?_
          refine lv_aload_n hx hb dX1_replace_115 rfl (lv_at hl 0 rfl) ?_
          refine va_get (D := (dC, dI)) (ci := 1) (v := .ref b8) (C := RX1) (T := TX1) (N := 16) hx hb hall inX1 hown hK hP 0 rfl rfl 13 (by decide) (hall _ kw_336) (fun _ h9 => h9) rfl dX1_replace_116 ?_
          refine lv_iload hx hb dX1_replace_119 (lv_at hl 3 rfl) ?_
          refine xa_lald hx hb hK hP 8 1 rfl rfl (by omega) (by omega) dX1_replace_121 ?_
          refine xa_last hx hb hK hP hD hS 4 1 rfl rfl (by omega) (by omega) dX1_replace_122 (fun H locs hP hD hS => ?_)
          have hP : va_P (dC, dI) vwCl [(y, .inr (1, [.int (nI th), .int (nI nD), .int (nI nR), .ref b1, .ref b2, .long now, .ref b3, .ref b4, .ref b5, .int (nI G.length), .ref b6, .ref b7, .int (nI el), .ref b8, .ref b9, .ref b10])), (b1, .inl (cJ, 512, .inr (.inl vs))), (b2, .inl (cZ, 512, .inl (fun j => bI (ac j)))), (b3, .inl (cI, 8192, .inl (fun j => nI (un oc G.length d j)))), (b4, .inl (cJ, 8192, .inr (.inl (vp_updL tc G.length (rt k))))), (b5, .inl (cJ, 8192, .inr (.inl vc))), (b6, .inl (cJ, 16, .inr (.inl nv))), (b7, .inl (cJ, 16, .inr (.inl dl))), (b8, .inl (cJ, 8208, .inr (.inl rt))), (b9, .inl (cJ, 8208, .inr (.inl rv))), (b10, .inl (cZ, 8208, .inl (fun j => bI (mk j))))] H := hP
          have hD : va_D A [(y, .inr (1, [.int (nI th), .int (nI nD), .int (nI nR), .ref b1, .ref b2, .long now, .ref b3, .ref b4, .ref b5, .int (nI G.length), .ref b6, .ref b7, .int (nI el), .ref b8, .ref b9, .ref b10])), (b1, .inl (cJ, 512, .inr (.inl vs))), (b2, .inl (cZ, 512, .inl (fun j => bI (ac j)))), (b3, .inl (cI, 8192, .inl (fun j => nI (un oc G.length d j)))), (b4, .inl (cJ, 8192, .inr (.inl (vp_updL tc G.length (rt k))))), (b5, .inl (cJ, 8192, .inr (.inl vc))), (b6, .inl (cJ, 16, .inr (.inl nv))), (b7, .inl (cJ, 16, .inr (.inl dl))), (b8, .inl (cJ, 8208, .inr (.inl rt))), (b9, .inl (cJ, 8208, .inr (.inl rv))), (b10, .inl (cZ, 8208, .inl (fun j => bI (mk j))))] := hD
          refine lv_aload_n hx hb dX1_replace_123 rfl (lv_at hl 0 rfl) ?_
          refine va_get (D := (dC, dI)) (ci := 1) (v := .ref b5) (C := RX1) (T := TX1) (N := 16) hx hb hall inX1 hown hK hP 0 rfl rfl 8 (by decide) (hall _ kw_331) (fun _ h9 => h9) rfl dX1_replace_124 ?_
          refine lv_aload_n hx hb dX1_replace_127 rfl (lv_at hl 0 rfl) ?_
          refine va_get (D := (dC, dI)) (ci := 1) (v := .int (nI G.length)) (C := RX1) (T := TX1) (N := 16) hx hb hall inX1 hown hK hP 0 rfl rfl 9 (by decide) (hall _ kw_332) (fun _ h9 => h9) rfl dX1_replace_128 ?_
          refine lv_aload_n hx hb dX1_replace_131 rfl (lv_at hl 0 rfl) ?_
          refine va_get (D := (dC, dI)) (ci := 1) (v := .ref b9) (C := RX1) (T := TX1) (N := 16) hx hb hall inX1 hown hK hP 0 rfl rfl 14 (by decide) (hall _ kw_337) (fun _ h9 => h9) rfl dX1_replace_132 ?_
          refine lv_iload hx hb dX1_replace_135 (lv_at hl 3 rfl) ?_
          refine xa_lald hx hb hK hP 9 1 rfl rfl (by omega) (by omega) dX1_replace_137 ?_
          refine xa_last hx hb hK hP hD hS 5 1 rfl rfl (by omega) (by omega) dX1_replace_138 (fun H locs hP hD hS => ?_)
          have hP : va_P (dC, dI) vwCl [(y, .inr (1, [.int (nI th), .int (nI nD), .int (nI nR), .ref b1, .ref b2, .long now, .ref b3, .ref b4, .ref b5, .int (nI G.length), .ref b6, .ref b7, .int (nI el), .ref b8, .ref b9, .ref b10])), (b1, .inl (cJ, 512, .inr (.inl vs))), (b2, .inl (cZ, 512, .inl (fun j => bI (ac j)))), (b3, .inl (cI, 8192, .inl (fun j => nI (un oc G.length d j)))), (b4, .inl (cJ, 8192, .inr (.inl (vp_updL tc G.length (rt k))))), (b5, .inl (cJ, 8192, .inr (.inl (vp_updL vc G.length (rv k))))), (b6, .inl (cJ, 16, .inr (.inl nv))), (b7, .inl (cJ, 16, .inr (.inl dl))), (b8, .inl (cJ, 8208, .inr (.inl rt))), (b9, .inl (cJ, 8208, .inr (.inl rv))), (b10, .inl (cZ, 8208, .inl (fun j => bI (mk j))))] H := hP
          have hD : va_D A [(y, .inr (1, [.int (nI th), .int (nI nD), .int (nI nR), .ref b1, .ref b2, .long now, .ref b3, .ref b4, .ref b5, .int (nI G.length), .ref b6, .ref b7, .int (nI el), .ref b8, .ref b9, .ref b10])), (b1, .inl (cJ, 512, .inr (.inl vs))), (b2, .inl (cZ, 512, .inl (fun j => bI (ac j)))), (b3, .inl (cI, 8192, .inl (fun j => nI (un oc G.length d j)))), (b4, .inl (cJ, 8192, .inr (.inl (vp_updL tc G.length (rt k))))), (b5, .inl (cJ, 8192, .inr (.inl (vp_updL vc G.length (rv k))))), (b6, .inl (cJ, 16, .inr (.inl nv))), (b7, .inl (cJ, 16, .inr (.inl dl))), (b8, .inl (cJ, 8208, .inr (.inl rt))), (b9, .inl (cJ, 8208, .inr (.inl rv))), (b10, .inl (cZ, 8208, .inl (fun j => bI (mk j))))] := hD
          refine lv_aload_n hx hb dX1_replace_139 rfl (lv_at hl 0 rfl) ?_
          refine lv_dup hx hb dX1_replace_140 rfl ?_
          refine va_get (D := (dC, dI)) (ci := 1) (v := .int (nI G.length)) (C := RX1) (T := TX1) (N := 16) hx hb hall inX1 hown hK hP 0 rfl rfl 9 (by decide) (hall _ kw_332) (fun _ h9 => h9) rfl dX1_replace_141 ?_
          refine lv_iconst (v := 1) hx hb dX1_replace_144 (by decide) ?_
          refine lv_iadd hx hb dX1_replace_145 ?_
          refine tp_i (y := nI (G.length + 1)) (nI_1 _) ?_
          refine va_put (D := (dC, dI)) (ci := 1) (v := .int (nI (G.length + 1))) (ty := .int) (C := RX1) (T := TX1) (N := 16) hx hb hall inX1 tyX1 tyX1_ok nmX1 hown hK hP hD hS 0 rfl rfl 9 (by decide) (hall _ kw_332) (fun _ h9 => h9) rfl (by decide +kernel) rfl rfl (Nat.le_of_ble_eq_true rfl) dX1_replace_146 (fun H locs hP hD hS => ?_)
          have hP : va_P (dC, dI) vwCl [(y, .inr (1, [.int (nI th), .int (nI nD), .int (nI nR), .ref b1, .ref b2, .long now, .ref b3, .ref b4, .ref b5, .int (nI (G.length + 1)), .ref b6, .ref b7, .int (nI el), .ref b8, .ref b9, .ref b10])), (b1, .inl (cJ, 512, .inr (.inl vs))), (b2, .inl (cZ, 512, .inl (fun j => bI (ac j)))), (b3, .inl (cI, 8192, .inl (fun j => nI (un oc G.length d j)))), (b4, .inl (cJ, 8192, .inr (.inl (vp_updL tc G.length (rt k))))), (b5, .inl (cJ, 8192, .inr (.inl (vp_updL vc G.length (rv k))))), (b6, .inl (cJ, 16, .inr (.inl nv))), (b7, .inl (cJ, 16, .inr (.inl dl))), (b8, .inl (cJ, 8208, .inr (.inl rt))), (b9, .inl (cJ, 8208, .inr (.inl rv))), (b10, .inl (cZ, 8208, .inl (fun j => bI (mk j))))] H := hP
          have hD : va_D A [(y, .inr (1, [.int (nI th), .int (nI nD), .int (nI nR), .ref b1, .ref b2, .long now, .ref b3, .ref b4, .ref b5, .int (nI (G.length + 1)), .ref b6, .ref b7, .int (nI el), .ref b8, .ref b9, .ref b10])), (b1, .inl (cJ, 512, .inr (.inl vs))), (b2, .inl (cZ, 512, .inl (fun j => bI (ac j)))), (b3, .inl (cI, 8192, .inl (fun j => nI (un oc G.length d j)))), (b4, .inl (cJ, 8192, .inr (.inl (vp_updL tc G.length (rt k))))), (b5, .inl (cJ, 8192, .inr (.inl (vp_updL vc G.length (rv k))))), (b6, .inl (cJ, 16, .inr (.inl nv))), (b7, .inl (cJ, 16, .inr (.inl dl))), (b8, .inl (cJ, 8208, .inr (.inl rt))), (b9, .inl (cJ, 8208, .inr (.inl rv))), (b10, .inl (cZ, 8208, .inl (fun j => bI (mk j))))] := hD
          refine lv_iinc (v := nI (k + 1)) (lv' := [(4, .int (nI (k + 1))), (0, .ref y), (1, .int (nI d)), (2, .int (nI n0))]) hx hb dX1_replace_149 hl (k := 3) rfl (nI_1 k) (by decide) rfl (fun ls hl => ?_)
          refine lv_goto (tgt := 81) hx hb dX1_replace_152 (by decide) ?_
          exact ih (k + 1) (G ++ [(d, rt k, rv k)]) _ _ _ H locs ls (by omega) (wz_push (d, rt k, rv k) hG) (by rw [← hE2, List.append_assoc]; rfl) (by rw [wz_len]; exact hP) (by rw [wz_len]; exact hD) hS (lv_sub hl [1, 2, 3, 0] rfl)
  have hloop : ∀ (ss : List ZT) (k : Nat) (F : List ZT) (oc : Nat → Nat) (tc vc : Nat → Int64) (H : Heap) (locs : List Loc) (ls : Array Slot), zs.drop k = ss → k ≤ zs.length → F.length ≤ k → wz F oc tc vc → (∀ j, k ≤ j → oc j = o j ∧ tc j = mt j ∧ vc j = mw j) → F ++ wot d ss = wot d zs → va_P (dC, dI) vwCl [(y, .inr (1, [.int (nI th), .int (nI nD), .int (nI nR), .ref b1, .ref b2, .long now, .ref b3, .ref b4, .ref b5, .int (nI zs.length), .ref b6, .ref b7, .int (nI el), .ref b8, .ref b9, .ref b10])), (b1, .inl (cJ, 512, .inr (.inl vs))), (b2, .inl (cZ, 512, .inl (fun j => bI (ac j)))), (b3, .inl (cI, 8192, .inl (fun j => nI (oc j)))), (b4, .inl (cJ, 8192, .inr (.inl tc))), (b5, .inl (cJ, 8192, .inr (.inl vc))), (b6, .inl (cJ, 16, .inr (.inl nv))), (b7, .inl (cJ, 16, .inr (.inl dl))), (b8, .inl (cJ, 8208, .inr (.inl rt))), (b9, .inl (cJ, 8208, .inr (.inl rv))), (b10, .inl (cZ, 8208, .inl (fun j => bI (mk j))))] H → va_D A [(y, .inr (1, [.int (nI th), .int (nI nD), .int (nI nR), .ref b1, .ref b2, .long now, .ref b3, .ref b4, .ref b5, .int (nI zs.length), .ref b6, .ref b7, .int (nI el), .ref b8, .ref b9, .ref b10])), (b1, .inl (cJ, 512, .inr (.inl vs))), (b2, .inl (cZ, 512, .inl (fun j => bI (ac j)))), (b3, .inl (cI, 8192, .inl (fun j => nI (oc j)))), (b4, .inl (cJ, 8192, .inr (.inl tc))), (b5, .inl (cJ, 8192, .inr (.inl vc))), (b6, .inl (cJ, 16, .inr (.inl nv))), (b7, .inl (cJ, 16, .inr (.inl dl))), (b8, .inl (cJ, 8208, .inr (.inl rt))), (b9, .inl (cJ, 8208, .inr (.inl rv))), (b10, .inl (cZ, 8208, .inl (fun j => bI (mk j))))] → va_S A s.heap H locs → lv_has ls 5 [(0, .ref y), (1, .int (nI d)), (2, .int (nI n0)), (3, .int (nI F.length)), (4, .int (nI k))] → W p l e (headSpec wsX1_replace ({ frames := 0, cells := 0, slots := 0, locals := 0 })).room s m (([.ref y, .int (nI d), .int (nI n0)] : List Value).toArray) below meth c H locs 0 0 (MQ below (va_Qv (fun _ : Unit => True) (fun _ t9 => ∃ (o9 : Nat → Nat) (t8 w9 : Nat → Int64), wz (wot d zs ++ wmk d rt rv mk n0 0) o9 t8 w9 ∧ va_P (dC, dI) vwCl (wm y b1 b2 b3 b4 b5 b6 b7 b8 b9 b10 cI cJ cZ th nD nR vs ac now o9 t8 w9 ((wot d zs ++ wmk d rt rv mk n0 0).length) nv dl el rt rv mk) t9.heap ∧ va_K (dC, dI) vwCl [(cI, .int), (cJ, .long), (cZ, .boolean)] t9 ∧ va_D A (wm y b1 b2 b3 b4 b5 b6 b7 b8 b9 b10 cI cJ cZ th nD nR vs ac now o9 t8 w9 ((wot d zs ++ wmk d rt rv mk n0 0).length) nv dl el rt rv mk)) A) (([.ref y, .int (nI d), .int (nI n0)] : List Value).toArray) s 0 0 A) (F0 m 5 ls []) := by
    intro ss
    induction ss with
    | nil =>
      intro k F oc tc vc H locs ls hss hkl hFk hF hO hE hP hD hS hl
      have hk := wz_nil hss
      refine lv_iload hx hb dX1_replace_5 (lv_at hl 4 rfl) ?_
      refine lv_aload_n hx hb dX1_replace_7 rfl (lv_at hl 0 rfl) ?_
      refine va_get (D := (dC, dI)) (ci := 1) (v := .int (nI zs.length)) (C := RX1) (T := TX1) (N := 16) hx hb hall inX1 hown hK hP 0 rfl rfl 9 (by decide) (hall _ kw_332) (fun _ h9 => h9) rfl dX1_replace_8 ?_
      refine xc_ge (tgt := 73) hx hb (by omega) (by omega) dX1_replace_11 (by decide) (fun c_4 => ?_) (fun c_4 => ?_)
      · refine lv_aload_n hx hb dX1_replace_73 rfl (lv_at hl 0 rfl) ?_
        refine lv_iload_n hx hb dX1_replace_74 rfl (lv_at hl 3 rfl) ?_
        refine va_put (D := (dC, dI)) (ci := 1) (v := .int (nI F.length)) (ty := .int) (C := RX1) (T := TX1) (N := 16) hx hb hall inX1 tyX1 tyX1_ok nmX1 hown hK hP hD hS 0 rfl rfl 9 (by decide) (hall _ kw_332) (fun _ h9 => h9) rfl (by decide +kernel) rfl rfl (Nat.le_of_ble_eq_true rfl) dX1_replace_75 (fun H locs hP hD hS => ?_)
        have hP : va_P (dC, dI) vwCl [(y, .inr (1, [.int (nI th), .int (nI nD), .int (nI nR), .ref b1, .ref b2, .long now, .ref b3, .ref b4, .ref b5, .int (nI F.length), .ref b6, .ref b7, .int (nI el), .ref b8, .ref b9, .ref b10])), (b1, .inl (cJ, 512, .inr (.inl vs))), (b2, .inl (cZ, 512, .inl (fun j => bI (ac j)))), (b3, .inl (cI, 8192, .inl (fun j => nI (oc j)))), (b4, .inl (cJ, 8192, .inr (.inl tc))), (b5, .inl (cJ, 8192, .inr (.inl vc))), (b6, .inl (cJ, 16, .inr (.inl nv))), (b7, .inl (cJ, 16, .inr (.inl dl))), (b8, .inl (cJ, 8208, .inr (.inl rt))), (b9, .inl (cJ, 8208, .inr (.inl rv))), (b10, .inl (cZ, 8208, .inl (fun j => bI (mk j))))] H := hP
        have hD : va_D A [(y, .inr (1, [.int (nI th), .int (nI nD), .int (nI nR), .ref b1, .ref b2, .long now, .ref b3, .ref b4, .ref b5, .int (nI F.length), .ref b6, .ref b7, .int (nI el), .ref b8, .ref b9, .ref b10])), (b1, .inl (cJ, 512, .inr (.inl vs))), (b2, .inl (cZ, 512, .inl (fun j => bI (ac j)))), (b3, .inl (cI, 8192, .inl (fun j => nI (oc j)))), (b4, .inl (cJ, 8192, .inr (.inl tc))), (b5, .inl (cJ, 8192, .inr (.inl vc))), (b6, .inl (cJ, 16, .inr (.inl nv))), (b7, .inl (cJ, 16, .inr (.inl dl))), (b8, .inl (cJ, 8208, .inr (.inl rt))), (b9, .inl (cJ, 8208, .inr (.inl rv))), (b10, .inl (cZ, 8208, .inl (fun j => bI (mk j))))] := hD
        refine lv_iconst (v := 0) hx hb dX1_replace_78 (by decide) ?_
        refine tp_i (y := nI 0) nI_0.symm ?_
        refine lv_istore (lv' := [(4, .int (nI 0)), (0, .ref y), (1, .int (nI d)), (2, .int (nI n0)), (3, .int (nI F.length))]) hx hb dX1_replace_79 hl (by decide) rfl (fun ls hl => ?_)
        have hE0 : F = wot d zs := (List.append_nil F).symm.trans hE
        exact hloop2 n0 0 F oc tc vc H locs ls (by omega) hF (by rw [hE0]) hP hD hS (lv_sub hl [1, 2, 3, 0] rfl)
      · exact absurd c_4 (by omega)
    | cons z tl ih =>
      intro k F oc tc vc H locs ls hss hkl hFk hF hO hE hP hD hS hl
      obtain ⟨hk, hzk, htl⟩ := wz_drop hss
      obtain ⟨ez1, ez2, ez3⟩ := hZ k z hzk
      have hod := how z (List.mem_of_getElem? hzk)
      refine lv_iload hx hb dX1_replace_5 (lv_at hl 4 rfl) ?_
      refine lv_aload_n hx hb dX1_replace_7 rfl (lv_at hl 0 rfl) ?_
      refine va_get (D := (dC, dI)) (ci := 1) (v := .int (nI zs.length)) (C := RX1) (T := TX1) (N := 16) hx hb hall inX1 hown hK hP 0 rfl rfl 9 (by decide) (hall _ kw_332) (fun _ h9 => h9) rfl dX1_replace_8 ?_
      refine xc_ge (tgt := 73) hx hb (by omega) (by omega) dX1_replace_11 (by decide) (fun c_5 => ?_) (fun c_5 => ?_)
      · exact absurd c_5 (by omega)
      · refine lv_aload_n hx hb dX1_replace_14 rfl (lv_at hl 0 rfl) ?_
        refine va_get (D := (dC, dI)) (ci := 1) (v := .ref b3) (C := RX1) (T := TX1) (N := 16) hx hb hall inX1 hown hK hP 0 rfl rfl 6 (by decide) (hall _ kw_329) (fun _ h9 => h9) rfl dX1_replace_15 ?_
        refine lv_iload hx hb dX1_replace_18 (lv_at hl 4 rfl) ?_
        refine xa_iald hx hb hK hP 3 0 rfl rfl (by omega) (by omega) dX1_replace_20 ?_
        refine tp_i (y := nI z.1) (by rw [(hO k (Nat.le_refl k)).1, ez1]) ?_
        refine lv_iload_n hx hb dX1_replace_21 rfl (lv_at hl 1 rfl) ?_
        refine xc_eq (tgt := 67) hx hb (by omega) (by omega) dX1_replace_22 (by decide) (fun c_6 => ?_) (fun c_6 => ?_)
        · have c_A := c_6
          refine lv_iinc (v := nI (k + 1)) (lv' := [(4, .int (nI (k + 1))), (0, .ref y), (1, .int (nI d)), (2, .int (nI n0)), (3, .int (nI F.length))]) hx hb dX1_replace_67 hl (k := 4) rfl (nI_1 k) (by decide) rfl (fun ls hl => ?_)
          refine lv_goto (tgt := 5) hx hb dX1_replace_70 (by decide) ?_
          exact ih (k + 1) F oc tc vc H locs ls htl (by omega) (by omega) hF (fun j hj => hO j (by omega)) (by rw [← hE, wot_skip c_A]) hP hD hS (lv_sub hl [1, 2, 3, 4, 0] rfl)
        · have c_A := c_6
          refine lv_aload_n hx hb dX1_replace_25 rfl (lv_at hl 0 rfl) ?_
          refine va_get (D := (dC, dI)) (ci := 1) (v := .ref b3) (C := RX1) (T := TX1) (N := 16) hx hb hall inX1 hown hK hP 0 rfl rfl 6 (by decide) (hall _ kw_329) (fun _ h9 => h9) rfl dX1_replace_26 ?_
          refine lv_iload_n hx hb dX1_replace_29 rfl (lv_at hl 3 rfl) ?_
          refine lv_aload_n hx hb dX1_replace_30 rfl (lv_at hl 0 rfl) ?_
          refine va_get (D := (dC, dI)) (ci := 1) (v := .ref b3) (C := RX1) (T := TX1) (N := 16) hx hb hall inX1 hown hK hP 0 rfl rfl 6 (by decide) (hall _ kw_329) (fun _ h9 => h9) rfl dX1_replace_31 ?_
          refine lv_iload hx hb dX1_replace_34 (lv_at hl 4 rfl) ?_
          refine xa_iald hx hb hK hP 3 0 rfl rfl (by omega) (by omega) dX1_replace_36 ?_
          refine tp_i (y := nI z.1) (by rw [(hO k (Nat.le_refl k)).1, ez1]) ?_
          refine xa_iast hx hb hK hP hD hS 3 0 rfl rfl (by omega) (by omega) dX1_replace_37 (fun H locs hP hD hS => ?_)
          have hP : va_P (dC, dI) vwCl [(y, .inr (1, [.int (nI th), .int (nI nD), .int (nI nR), .ref b1, .ref b2, .long now, .ref b3, .ref b4, .ref b5, .int (nI zs.length), .ref b6, .ref b7, .int (nI el), .ref b8, .ref b9, .ref b10])), (b1, .inl (cJ, 512, .inr (.inl vs))), (b2, .inl (cZ, 512, .inl (fun j => bI (ac j)))), (b3, .inl (cI, 8192, .inl (upd (fun j => nI (oc j)) F.length (nI z.1)))), (b4, .inl (cJ, 8192, .inr (.inl tc))), (b5, .inl (cJ, 8192, .inr (.inl vc))), (b6, .inl (cJ, 16, .inr (.inl nv))), (b7, .inl (cJ, 16, .inr (.inl dl))), (b8, .inl (cJ, 8208, .inr (.inl rt))), (b9, .inl (cJ, 8208, .inr (.inl rv))), (b10, .inl (cZ, 8208, .inl (fun j => bI (mk j))))] H := hP
          have hD : va_D A [(y, .inr (1, [.int (nI th), .int (nI nD), .int (nI nR), .ref b1, .ref b2, .long now, .ref b3, .ref b4, .ref b5, .int (nI zs.length), .ref b6, .ref b7, .int (nI el), .ref b8, .ref b9, .ref b10])), (b1, .inl (cJ, 512, .inr (.inl vs))), (b2, .inl (cZ, 512, .inl (fun j => bI (ac j)))), (b3, .inl (cI, 8192, .inl (upd (fun j => nI (oc j)) F.length (nI z.1)))), (b4, .inl (cJ, 8192, .inr (.inl tc))), (b5, .inl (cJ, 8192, .inr (.inl vc))), (b6, .inl (cJ, 16, .inr (.inl nv))), (b7, .inl (cJ, 16, .inr (.inl dl))), (b8, .inl (cJ, 8208, .inr (.inl rt))), (b9, .inl (cJ, 8208, .inr (.inl rv))), (b10, .inl (cZ, 8208, .inl (fun j => bI (mk j))))] := hD
          rw [un_nI] at hP hD
          refine lv_aload_n hx hb dX1_replace_38 rfl (lv_at hl 0 rfl) ?_
          refine va_get (D := (dC, dI)) (ci := 1) (v := .ref b4) (C := RX1) (T := TX1) (N := 16) hx hb hall inX1 hown hK hP 0 rfl rfl 7 (by decide) (hall _ kw_330) (fun _ h9 => h9) rfl dX1_replace_39 ?_
          refine lv_iload_n hx hb dX1_replace_42 rfl (lv_at hl 3 rfl) ?_
          refine lv_aload_n hx hb dX1_replace_43 rfl (lv_at hl 0 rfl) ?_
          refine va_get (D := (dC, dI)) (ci := 1) (v := .ref b4) (C := RX1) (T := TX1) (N := 16) hx hb hall inX1 hown hK hP 0 rfl rfl 7 (by decide) (hall _ kw_330) (fun _ h9 => h9) rfl dX1_replace_44 ?_
          refine lv_iload hx hb dX1_replace_47 (lv_at hl 4 rfl) ?_
          refine xa_lald hx hb hK hP 4 1 rfl rfl (by omega) (by omega) dX1_replace_49 ?_
          refine tp_l (y := z.2.1) ((hO k (Nat.le_refl k)).2.1.trans ez2) ?_
          refine xa_last hx hb hK hP hD hS 4 1 rfl rfl (by omega) (by omega) dX1_replace_50 (fun H locs hP hD hS => ?_)
          have hP : va_P (dC, dI) vwCl [(y, .inr (1, [.int (nI th), .int (nI nD), .int (nI nR), .ref b1, .ref b2, .long now, .ref b3, .ref b4, .ref b5, .int (nI zs.length), .ref b6, .ref b7, .int (nI el), .ref b8, .ref b9, .ref b10])), (b1, .inl (cJ, 512, .inr (.inl vs))), (b2, .inl (cZ, 512, .inl (fun j => bI (ac j)))), (b3, .inl (cI, 8192, .inl (fun j => nI (un oc F.length z.1 j)))), (b4, .inl (cJ, 8192, .inr (.inl (vp_updL tc F.length z.2.1)))), (b5, .inl (cJ, 8192, .inr (.inl vc))), (b6, .inl (cJ, 16, .inr (.inl nv))), (b7, .inl (cJ, 16, .inr (.inl dl))), (b8, .inl (cJ, 8208, .inr (.inl rt))), (b9, .inl (cJ, 8208, .inr (.inl rv))), (b10, .inl (cZ, 8208, .inl (fun j => bI (mk j))))] H := hP
          have hD : va_D A [(y, .inr (1, [.int (nI th), .int (nI nD), .int (nI nR), .ref b1, .ref b2, .long now, .ref b3, .ref b4, .ref b5, .int (nI zs.length), .ref b6, .ref b7, .int (nI el), .ref b8, .ref b9, .ref b10])), (b1, .inl (cJ, 512, .inr (.inl vs))), (b2, .inl (cZ, 512, .inl (fun j => bI (ac j)))), (b3, .inl (cI, 8192, .inl (fun j => nI (un oc F.length z.1 j)))), (b4, .inl (cJ, 8192, .inr (.inl (vp_updL tc F.length z.2.1)))), (b5, .inl (cJ, 8192, .inr (.inl vc))), (b6, .inl (cJ, 16, .inr (.inl nv))), (b7, .inl (cJ, 16, .inr (.inl dl))), (b8, .inl (cJ, 8208, .inr (.inl rt))), (b9, .inl (cJ, 8208, .inr (.inl rv))), (b10, .inl (cZ, 8208, .inl (fun j => bI (mk j))))] := hD
          refine lv_aload_n hx hb dX1_replace_51 rfl (lv_at hl 0 rfl) ?_
          refine va_get (D := (dC, dI)) (ci := 1) (v := .ref b5) (C := RX1) (T := TX1) (N := 16) hx hb hall inX1 hown hK hP 0 rfl rfl 8 (by decide) (hall _ kw_331) (fun _ h9 => h9) rfl dX1_replace_52 ?_
          refine lv_iload_n hx hb dX1_replace_55 rfl (lv_at hl 3 rfl) ?_
          refine lv_aload_n hx hb dX1_replace_56 rfl (lv_at hl 0 rfl) ?_
          refine va_get (D := (dC, dI)) (ci := 1) (v := .ref b5) (C := RX1) (T := TX1) (N := 16) hx hb hall inX1 hown hK hP 0 rfl rfl 8 (by decide) (hall _ kw_331) (fun _ h9 => h9) rfl dX1_replace_57 ?_
          refine lv_iload hx hb dX1_replace_60 (lv_at hl 4 rfl) ?_
          refine xa_lald hx hb hK hP 5 1 rfl rfl (by omega) (by omega) dX1_replace_62 ?_
          refine tp_l (y := z.2.2) ((hO k (Nat.le_refl k)).2.2.trans ez3) ?_
          refine xa_last hx hb hK hP hD hS 5 1 rfl rfl (by omega) (by omega) dX1_replace_63 (fun H locs hP hD hS => ?_)
          have hP : va_P (dC, dI) vwCl [(y, .inr (1, [.int (nI th), .int (nI nD), .int (nI nR), .ref b1, .ref b2, .long now, .ref b3, .ref b4, .ref b5, .int (nI zs.length), .ref b6, .ref b7, .int (nI el), .ref b8, .ref b9, .ref b10])), (b1, .inl (cJ, 512, .inr (.inl vs))), (b2, .inl (cZ, 512, .inl (fun j => bI (ac j)))), (b3, .inl (cI, 8192, .inl (fun j => nI (un oc F.length z.1 j)))), (b4, .inl (cJ, 8192, .inr (.inl (vp_updL tc F.length z.2.1)))), (b5, .inl (cJ, 8192, .inr (.inl (vp_updL vc F.length z.2.2)))), (b6, .inl (cJ, 16, .inr (.inl nv))), (b7, .inl (cJ, 16, .inr (.inl dl))), (b8, .inl (cJ, 8208, .inr (.inl rt))), (b9, .inl (cJ, 8208, .inr (.inl rv))), (b10, .inl (cZ, 8208, .inl (fun j => bI (mk j))))] H := hP
          have hD : va_D A [(y, .inr (1, [.int (nI th), .int (nI nD), .int (nI nR), .ref b1, .ref b2, .long now, .ref b3, .ref b4, .ref b5, .int (nI zs.length), .ref b6, .ref b7, .int (nI el), .ref b8, .ref b9, .ref b10])), (b1, .inl (cJ, 512, .inr (.inl vs))), (b2, .inl (cZ, 512, .inl (fun j => bI (ac j)))), (b3, .inl (cI, 8192, .inl (fun j => nI (un oc F.length z.1 j)))), (b4, .inl (cJ, 8192, .inr (.inl (vp_updL tc F.length z.2.1)))), (b5, .inl (cJ, 8192, .inr (.inl (vp_updL vc F.length z.2.2)))), (b6, .inl (cJ, 16, .inr (.inl nv))), (b7, .inl (cJ, 16, .inr (.inl dl))), (b8, .inl (cJ, 8208, .inr (.inl rt))), (b9, .inl (cJ, 8208, .inr (.inl rv))), (b10, .inl (cZ, 8208, .inl (fun j => bI (mk j))))] := hD
          refine lv_iinc (v := nI (F.length + 1)) (lv' := [(3, .int (nI (F.length + 1))), (0, .ref y), (1, .int (nI d)), (2, .int (nI n0)), (4, .int (nI k))]) hx hb dX1_replace_64 hl (k := 3) rfl (nI_1 _) (by decide) rfl (fun ls hl => ?_)
          refine lv_iinc (v := nI (k + 1)) (lv' := [(4, .int (nI (k + 1))), (3, .int (nI (F.length + 1))), (0, .ref y), (1, .int (nI d)), (2, .int (nI n0))]) hx hb dX1_replace_67 hl (k := 4) rfl (nI_1 k) (by decide) rfl (fun ls hl => ?_)
          refine lv_goto (tgt := 5) hx hb dX1_replace_70 (by decide) ?_
          exact ih (k + 1) (F ++ [z]) _ _ _ H locs ls htl (by omega) (by rw [wz_len]; omega) (wz_push z hF) (fun j hj => ⟨(if_neg (by omega)).trans (hO j (by omega)).1, (pk_uLn (by omega)).trans (hO j (by omega)).2.1, (pk_uLn (by omega)).trans (hO j (by omega)).2.2⟩) (by rw [← hE, wot_take c_A, List.append_assoc]; rfl) hP hD hS (by rw [wz_len]; exact lv_sub hl [2, 3, 4, 1, 0] rfl)
  exact hloop zs 0 [] o mt mw s.heap [] ls rfl (by omega) (by exact Nat.zero_le _) (fun j e he => by cases he) (fun j _ => ⟨rfl, rfl, rfl⟩) rfl hP hD hS (lv_sub hl [2, 3, 4, 1, 0] rfl)
set_option maxHeartbeats 4000000 in
set_option maxRecDepth 100000 in
theorem m_start1 (l : Launch) (dC : Nat → ClassId) (dI : Nat → Nat → Nat) (y b1 b2 b3 b4 b5 b6 b7 b8 b9 b10 : Nat) (cI cJ cZ : ClassId) (th nD nR : Nat) (vs : Nat → Int64) (ac : Nat → Bool) (now : Int64) (o : Nat → Nat) (mt mw : Nat → Int64) (nv dl : Nat → Int64) (el : Nat) (rt rv : Nat → Int64) (mk : Nat → Bool) (zs : List ZT) (sz : Nat) (i : Int32) (hbad : i < 0 ∨ nI nD ≤ i) (t : Int64) : Met l yX1_start wsX1_start ({ frames := 1, cells := 0, slots := 0, locals := 21 }) (va_Pc [.ref y, .int i, .long t] (fun U => U.heap.size = sz ∧ va_P (dC, dI) vwCl (wm y b1 b2 b3 b4 b5 b6 b7 b8 b9 b10 cI cJ cZ th nD nR vs ac now o mt mw zs.length nv dl el rt rv mk) U.heap ∧ va_K (dC, dI) vwCl [(cI, .int), (cJ, .long), (cZ, .boolean)] U ∧ va_D (fun _ => True) (wm y b1 b2 b3 b4 b5 b6 b7 b8 b9 b10 cI cJ cZ th nD nR vs ac now o mt mw zs.length nv dl el rt rv mk))) (va_Qi (fun (v : Int32) (_ : Unit) => True) (fun _ t9 => va_P (dC, dI) vwCl (wm y b1 b2 b3 b4 b5 b6 b7 b8 b9 b10 cI cJ cZ 1 nD nR vs ac now o mt mw zs.length nv dl el rt rv mk) t9.heap ∧ va_K (dC, dI) vwCl [(cI, .int), (cJ, .long), (cZ, .boolean)] t9 ∧ va_D (va_A (wm y b1 b2 b3 b4 b5 b6 b7 b8 b9 b10 cI cJ cZ th nD nR vs ac now o mt mw zs.length nv dl el rt rv mk) sz) (wm y b1 b2 b3 b4 b5 b6 b7 b8 b9 b10 cI cJ cZ 1 nD nR vs ac now o mt mw zs.length nv dl el rt rv mk)) (va_A (wm y b1 b2 b3 b4 b5 b6 b7 b8 b9 b10 cI cJ cZ th nD nR vs ac now o mt mw zs.length nv dl el rt rv mk) sz)) 0 0 (va_A (wm y b1 b2 b3 b4 b5 b6 b7 b8 b9 b10 cI cJ cZ th nD nR vs ac now o mt mw zs.length nv dl el rt rv mk) sz) := by
  refine Met.ofW (cc := cX1_start) (maxL := 5) (ret := (some .int)) (by decide) rfl ?_
  intro p e s m args below meth c s₁ B hml hv
  obtain ⟨rfl, hsz, hP, hK, hD0⟩ := hv
  subst hsz
  have hD := hD0.self (sz := s.heap.size)
  generalize hAe : va_A (wm y b1 b2 b3 b4 b5 b6 b7 b8 b9 b10 cI cJ cZ th nD nR vs ac now o mt mw zs.length nv dl el rt rv mk) s.heap.size = A at hD ⊢
  have hA : ∀ q : Nat, s.heap.size ≤ q → A q := fun q h => by rw [← hAe]; exact Or.inr h
  have hS : va_S A s.heap s.heap [] := va_S.rf
  have hx := B.exec
  have hb := B.bytes
  have hr := B.returns
  have hts := atoms_spec (ws := wsX1_start) B.pre
  have hown : s.vm.findClass RX1 = some m.cls := findClass_of_methodNamed B.named
  have hlocks := B.notSynchronized
  have hall := fun (w : Cond) (h : w ∈ allw) => hts w (List.mem_cons_of_mem _ h)
  have hl := lv_entry ([.ref y, .int i, .long t]) (n := 5) (Nat.le_of_ble_eq_true rfl)
  rw [lg_entry_eq]
  generalize (lg_sl ([.ref y, .int i, .long t]) ++ List.replicate (5 - (lg_sl ([.ref y, .int i, .long t])).length) Slot.unset).toArray = ls at hl ⊢
  have hl : lv_has ls 5 [(0, .ref y), (1, .int i), (2, .long t)] := hl
  refine lv_aload_n hx hb dX1_start_0 rfl (lv_at hl 0 rfl) ?_
  refine lv_aload_n hx hb dX1_start_1 rfl (lv_at hl 0 rfl) ?_
  refine lv_iload_n hx hb dX1_start_2 rfl (lv_at hl 1 rfl) ?_
  refine vp_callSi (W.runV (As := [.int i]) (rest := [.ref y]) ⟨hx, hb, hml, hown, hall⟩ (m_none1 l dC dI y b1 b2 b3 b4 b5 b6 b7 b8 b9 b10 cI cJ cZ th nD nR vs ac now o mt mw nv dl el rt rv mk zs i hbad) (cwV 1 hall gX1_60 rfl rfl rfl (by decide +kernel) ⟨Nat.le_of_ble_eq_true rfl, Nat.le_of_ble_eq_true rfl⟩) ⟨xr_blind, va_recv hK hP (ci := 1) (q0 := 0) rfl rfl, fun U hU hW => ⟨rfl, by rw [hU]; exact hP, va_K.moved hW.alike hK⟩⟩ rfl rfl hl.1 rfl (lv_room (Nat.le_of_ble_eq_true rfl)) dX1_start_3 ⟨by first | exact Nat.zero_le _ | omega, by first | exact Nat.zero_le _ | omega⟩) (fun v_1 hv_2 => ?_)
  subst hv_2
  refine lv_if_eq (tgt := 13) hx hb dX1_start_6 (by decide) (fun c_3 => ?_) (fun c_3 => ?_)
  · exact absurd c_3 (by decide)
  · refine lv_iconst (v := 1) hx hb dX1_start_9 (by decide) ?_
    refine tp_i (y := nI 1) (by decide) ?_
    refine lv_goto (tgt := 14) hx hb dX1_start_10 (by decide) ?_
    refine va_put (D := (dC, dI)) (ci := 1) (v := .int (nI 1)) (ty := .int) (C := RX1) (T := TX1) (N := 16) hx hb hall inX1 tyX1 tyX1_ok nmX1 hown hK hP hD hS 0 rfl rfl 0 (by decide) (hall _ kw_323) (fun _ h9 => h9) rfl (by decide +kernel) rfl rfl (Nat.le_of_ble_eq_true rfl) dX1_start_14 (fun H locs hP hD hS => ?_)
    have hP : va_P (dC, dI) vwCl [(y, .inr (1, [.int (nI 1), .int (nI nD), .int (nI nR), .ref b1, .ref b2, .long now, .ref b3, .ref b4, .ref b5, .int (nI zs.length), .ref b6, .ref b7, .int (nI el), .ref b8, .ref b9, .ref b10])), (b1, .inl (cJ, 512, .inr (.inl vs))), (b2, .inl (cZ, 512, .inl (fun j => bI (ac j)))), (b3, .inl (cI, 8192, .inl (fun j => nI (o j)))), (b4, .inl (cJ, 8192, .inr (.inl mt))), (b5, .inl (cJ, 8192, .inr (.inl mw))), (b6, .inl (cJ, 16, .inr (.inl nv))), (b7, .inl (cJ, 16, .inr (.inl dl))), (b8, .inl (cJ, 8208, .inr (.inl rt))), (b9, .inl (cJ, 8208, .inr (.inl rv))), (b10, .inl (cZ, 8208, .inl (fun j => bI (mk j))))] H := hP
    have hD : va_D A [(y, .inr (1, [.int (nI 1), .int (nI nD), .int (nI nR), .ref b1, .ref b2, .long now, .ref b3, .ref b4, .ref b5, .int (nI zs.length), .ref b6, .ref b7, .int (nI el), .ref b8, .ref b9, .ref b10])), (b1, .inl (cJ, 512, .inr (.inl vs))), (b2, .inl (cZ, 512, .inl (fun j => bI (ac j)))), (b3, .inl (cI, 8192, .inl (fun j => nI (o j)))), (b4, .inl (cJ, 8192, .inr (.inl mt))), (b5, .inl (cJ, 8192, .inr (.inl mw))), (b6, .inl (cJ, 16, .inr (.inl nv))), (b7, .inl (cJ, 16, .inr (.inl dl))), (b8, .inl (cJ, 8208, .inr (.inl rt))), (b9, .inl (cJ, 8208, .inr (.inl rv))), (b10, .inl (cZ, 8208, .inl (fun j => bI (mk j))))] := hD
    refine lv_aload_n hx hb dX1_start_17 rfl (lv_at hl 0 rfl) ?_
    refine va_get (D := (dC, dI)) (ci := 1) (v := .int (nI 1)) (C := RX1) (T := TX1) (N := 16) hx hb hall inX1 hown hK hP 0 rfl rfl 0 (by decide) (hall _ kw_323) (fun _ h9 => h9) rfl dX1_start_18 ?_
    refine xz_le (tgt := 26) hx hb (by omega) dX1_start_21 (by decide) (fun c_4 => ?_) (fun c_4 => ?_)
    · exact absurd c_4 (by omega)
    · refine lv_iconst (v := 0) hx hb dX1_start_24 (by decide) ?_
      exact W.iret (v := 0) hx hb hr (fun t9 ht hW => ⟨⟨0, (), rfl, trivial, by rw [ht]; exact hP, va_K.moved hW.alike hK, hD⟩, hS.F ht⟩) hS.2.2 dX1_start_25
set_option maxHeartbeats 4000000 in
set_option maxRecDepth 100000 in
theorem m_start0 (l : Launch) (dC : Nat → ClassId) (dI : Nat → Nat → Nat) (y b1 b2 b3 b4 b5 b6 b7 b8 b9 b10 : Nat) (cI cJ cZ : ClassId) (th nD nR : Nat) (vs : Nat → Int64) (ac : Nat → Bool) (now : Int64) (o : Nat → Nat) (mt mw : Nat → Int64) (nv dl : Nat → Int64) (el : Nat) (rt rv : Nat → Int64) (mk : Nat → Bool) (zs : List ZT) (sz : Nat) (hI : wm_I nD nR el zs) (hZ : wz zs o mt mw) (d : Nat) (hd : d < nD) (t : Int64) : Met l yX1_start wsX1_start ({ frames := 1, cells := 0, slots := 0, locals := 24 }) (va_Pc [.ref y, .int (nI d), .long t] (fun U => U.heap.size = sz ∧ va_P (dC, dI) vwCl (wm y b1 b2 b3 b4 b5 b6 b7 b8 b9 b10 cI cJ cZ th nD nR vs ac now o mt mw zs.length nv dl el rt rv mk) U.heap ∧ va_K (dC, dI) vwCl [(cI, .int), (cJ, .long), (cZ, .boolean)] U ∧ va_D (fun _ => True) (wm y b1 b2 b3 b4 b5 b6 b7 b8 b9 b10 cI cJ cZ th nD nR vs ac now o mt mw zs.length nv dl el rt rv mk))) (va_Qi (fun (v : Int32) (_ : Unit) => v = nI (zs.length - (wot d zs).length)) (fun _ t9 => ∃ (o9 : Nat → Nat) (t8 w9 : Nat → Int64), wz (wot d zs) o9 t8 w9 ∧ va_P (dC, dI) vwCl (wm y b1 b2 b3 b4 b5 b6 b7 b8 b9 b10 cI cJ cZ 0 nD nR (vp_updL vs d t) ac now o9 t8 w9 ((wot d zs).length) nv dl el rt rv mk) t9.heap ∧ va_K (dC, dI) vwCl [(cI, .int), (cJ, .long), (cZ, .boolean)] t9 ∧ va_D (va_A (wm y b1 b2 b3 b4 b5 b6 b7 b8 b9 b10 cI cJ cZ th nD nR vs ac now o mt mw zs.length nv dl el rt rv mk) sz) (wm y b1 b2 b3 b4 b5 b6 b7 b8 b9 b10 cI cJ cZ 0 nD nR (vp_updL vs d t) ac now o9 t8 w9 ((wot d zs).length) nv dl el rt rv mk)) (va_A (wm y b1 b2 b3 b4 b5 b6 b7 b8 b9 b10 cI cJ cZ th nD nR vs ac now o mt mw zs.length nv dl el rt rv mk) sz)) 0 0 (va_A (wm y b1 b2 b3 b4 b5 b6 b7 b8 b9 b10 cI cJ cZ th nD nR vs ac now o mt mw zs.length nv dl el rt rv mk) sz) := by
  refine Met.ofW (cc := cX1_start) (maxL := 5) (ret := (some .int)) (by decide) rfl ?_
  intro p e s m args below meth c s₁ B hml hv
  obtain ⟨rfl, hsz, hP, hK, hD0⟩ := hv
  subst hsz
  have hD := hD0.self (sz := s.heap.size)
  generalize hAe : va_A (wm y b1 b2 b3 b4 b5 b6 b7 b8 b9 b10 cI cJ cZ th nD nR vs ac now o mt mw zs.length nv dl el rt rv mk) s.heap.size = A at hD ⊢
  have hA : ∀ q : Nat, s.heap.size ≤ q → A q := fun q h => by rw [← hAe]; exact Or.inr h
  have hS : va_S A s.heap s.heap [] := va_S.rf
  have hx := B.exec
  have hb := B.bytes
  have hr := B.returns
  have hts := atoms_spec (ws := wsX1_start) B.pre
  have hown : s.vm.findClass RX1 = some m.cls := findClass_of_methodNamed B.named
  have hlocks := B.notSynchronized
  have hall := fun (w : Cond) (h : w ∈ allw) => hts w (List.mem_cons_of_mem _ h)
  have hl := lv_entry ([.ref y, .int (nI d), .long t]) (n := 5) (Nat.le_of_ble_eq_true rfl)
  rw [lg_entry_eq]
  generalize (lg_sl ([.ref y, .int (nI d), .long t]) ++ List.replicate (5 - (lg_sl ([.ref y, .int (nI d), .long t])).length) Slot.unset).toArray = ls at hl ⊢
  have hl : lv_has ls 5 [(0, .ref y), (1, .int (nI d)), (2, .long t)] := hl
  have hI0 := hI
  obtain ⟨hnD1, hnD, hnR1, hnR, hzR, hel, how⟩ := hI
  have hwl := wot_len d zs
  have e9 : wot d zs ++ wmk d rt rv mk 0 0 = wot d zs := List.append_nil _
  refine lv_aload_n hx hb dX1_start_0 rfl (lv_at hl 0 rfl) ?_
  refine lv_aload_n hx hb dX1_start_1 rfl (lv_at hl 0 rfl) ?_
  refine lv_iload_n hx hb dX1_start_2 rfl (lv_at hl 1 rfl) ?_
  refine vp_callSi (W.runV (As := [.int (nI d)]) (rest := [.ref y]) ⟨hx, hb, hml, hown, hall⟩ (m_none0 l dC dI y b1 b2 b3 b4 b5 b6 b7 b8 b9 b10 cI cJ cZ th nD nR vs ac now o mt mw nv dl el rt rv mk zs hI0 hZ d hd) (cwV 1 hall gX1_60 rfl rfl rfl (by decide +kernel) ⟨Nat.le_of_ble_eq_true rfl, Nat.le_of_ble_eq_true rfl⟩) ⟨xr_blind, va_recv hK hP (ci := 1) (q0 := 0) rfl rfl, fun U hU hW => ⟨rfl, by rw [hU]; exact hP, va_K.moved hW.alike hK⟩⟩ rfl rfl hl.1 rfl (lv_room (Nat.le_of_ble_eq_true rfl)) dX1_start_3 ⟨by first | exact Nat.zero_le _ | omega, by first | exact Nat.zero_le _ | omega⟩) (fun v_1 hv_2 => ?_)
  subst hv_2
  refine lv_if_eq (tgt := 13) hx hb dX1_start_6 (by decide) (fun c_3 => ?_) (fun c_3 => ?_)
  · refine lv_iconst (v := 0) hx hb dX1_start_13 (by decide) ?_
    refine tp_i (y := nI 0) nI_0.symm ?_
    refine va_put (D := (dC, dI)) (ci := 1) (v := .int (nI 0)) (ty := .int) (C := RX1) (T := TX1) (N := 16) hx hb hall inX1 tyX1 tyX1_ok nmX1 hown hK hP hD hS 0 rfl rfl 0 (by decide) (hall _ kw_323) (fun _ h9 => h9) rfl (by decide +kernel) rfl rfl (Nat.le_of_ble_eq_true rfl) dX1_start_14 (fun H locs hP hD hS => ?_)
    have hP : va_P (dC, dI) vwCl [(y, .inr (1, [.int (nI 0), .int (nI nD), .int (nI nR), .ref b1, .ref b2, .long now, .ref b3, .ref b4, .ref b5, .int (nI zs.length), .ref b6, .ref b7, .int (nI el), .ref b8, .ref b9, .ref b10])), (b1, .inl (cJ, 512, .inr (.inl vs))), (b2, .inl (cZ, 512, .inl (fun j => bI (ac j)))), (b3, .inl (cI, 8192, .inl (fun j => nI (o j)))), (b4, .inl (cJ, 8192, .inr (.inl mt))), (b5, .inl (cJ, 8192, .inr (.inl mw))), (b6, .inl (cJ, 16, .inr (.inl nv))), (b7, .inl (cJ, 16, .inr (.inl dl))), (b8, .inl (cJ, 8208, .inr (.inl rt))), (b9, .inl (cJ, 8208, .inr (.inl rv))), (b10, .inl (cZ, 8208, .inl (fun j => bI (mk j))))] H := hP
    have hD : va_D A [(y, .inr (1, [.int (nI 0), .int (nI nD), .int (nI nR), .ref b1, .ref b2, .long now, .ref b3, .ref b4, .ref b5, .int (nI zs.length), .ref b6, .ref b7, .int (nI el), .ref b8, .ref b9, .ref b10])), (b1, .inl (cJ, 512, .inr (.inl vs))), (b2, .inl (cZ, 512, .inl (fun j => bI (ac j)))), (b3, .inl (cI, 8192, .inl (fun j => nI (o j)))), (b4, .inl (cJ, 8192, .inr (.inl mt))), (b5, .inl (cJ, 8192, .inr (.inl mw))), (b6, .inl (cJ, 16, .inr (.inl nv))), (b7, .inl (cJ, 16, .inr (.inl dl))), (b8, .inl (cJ, 8208, .inr (.inl rt))), (b9, .inl (cJ, 8208, .inr (.inl rv))), (b10, .inl (cZ, 8208, .inl (fun j => bI (mk j))))] := hD
    refine lv_aload_n hx hb dX1_start_17 rfl (lv_at hl 0 rfl) ?_
    refine va_get (D := (dC, dI)) (ci := 1) (v := .int (nI 0)) (C := RX1) (T := TX1) (N := 16) hx hb hall inX1 hown hK hP 0 rfl rfl 0 (by decide) (hall _ kw_323) (fun _ h9 => h9) rfl dX1_start_18 ?_
    refine xz_le (tgt := 26) hx hb (by omega) dX1_start_21 (by decide) (fun c_4 => ?_) (fun c_4 => ?_)
    · refine lv_aload_n hx hb dX1_start_26 rfl (lv_at hl 0 rfl) ?_
      refine va_get (D := (dC, dI)) (ci := 1) (v := .int (nI zs.length)) (C := RX1) (T := TX1) (N := 16) hx hb hall inX1 hown hK hP 0 rfl rfl 9 (by decide) (hall _ kw_332) (fun _ h9 => h9) rfl dX1_start_27 ?_
      refine lv_istore (lv' := [(4, .int (nI zs.length)), (0, .ref y), (1, .int (nI d)), (2, .long t)]) hx hb dX1_start_30 hl (by decide) rfl (fun ls hl => ?_)
      refine lv_aload_n hx hb dX1_start_32 rfl (lv_at hl 1 rfl) ?_
      refine lv_iload_n hx hb dX1_start_33 rfl (lv_at hl 2 rfl) ?_
      refine lv_iconst (v := 0) hx hb dX1_start_34 (by decide) ?_
      refine tp_i (y := nI 0) nI_0.symm ?_
      have hFc := va_free (wc := [(y, .inr (1, [.int (nI 0), .int (nI nD), .int (nI nR), .ref b1, .ref b2, .long now, .ref b3, .ref b4, .ref b5, .int (nI zs.length), .ref b6, .ref b7, .int (nI el), .ref b8, .ref b9, .ref b10])), (b1, .inl (cJ, 512, .inr (.inl vs))), (b2, .inl (cZ, 512, .inl (fun j => bI (ac j)))), (b3, .inl (cI, 8192, .inl (fun j => nI (o j)))), (b4, .inl (cJ, 8192, .inr (.inl mt))), (b5, .inl (cJ, 8192, .inr (.inl mw))), (b6, .inl (cJ, 16, .inr (.inl nv))), (b7, .inl (cJ, 16, .inr (.inl dl))), (b8, .inl (cJ, 8208, .inr (.inl rt))), (b9, .inl (cJ, 8208, .inr (.inl rv))), (b10, .inl (cZ, 8208, .inl (fun j => bI (mk j))))]) hD hS hA [0, 1, 2, 3, 4, 5, 6, 7, 8, 9, 10] rfl
      refine va_callv (va_runV (As := [.int (nI d), .int (nI 0)]) (rest := []) ⟨hx, hb, hml, hown, hall⟩ (m_replace l dC dI y b1 b2 b3 b4 b5 b6 b7 b8 b9 b10 cI cJ cZ 0 nD nR vs ac now o mt mw nv dl el rt rv mk zs H.size hI0 hZ d hd 0 (by omega) (by rw [e9]; omega)) (cwV 2 hall gX1_72 rfl rfl rfl (by decide +kernel) ⟨Nat.le_of_ble_eq_true rfl, Nat.le_of_ble_eq_true rfl⟩) ⟨xu_blind, va_recv hK hP (ci := 1) (q0 := 0) rfl rfl, fun U hU hW => ⟨rfl, by rw [hU], by rw [hU]; exact hP, va_K.moved hW.alike hK, hD.weaken (fun _ _ _ _ => trivial)⟩⟩ rfl rfl hl.1 rfl (lv_room (Nat.le_of_ble_eq_true rfl)) dX1_start_35 ⟨Nat.le_of_ble_eq_true rfl, Nat.le_of_ble_eq_true rfl⟩) hS (fun q _ h => hFc q h) hFc (fun u9 t9 H1 locs ht9 hvm hw9 hB hz1 hk1 hS => ?_)
      obtain ⟨o9, t8, w9, hZ9, hP1, hK1, hD1⟩ := hB
      rw [ht9] at hP1
      obtain ⟨hP, hD⟩ := va_join (wr := []) (w1 := [(y, .inr (1, [.int (nI 0), .int (nI nD), .int (nI nR), .ref b1, .ref b2, .long now, .ref b3, .ref b4, .ref b5, .int (nI ((wot d zs ++ wmk d rt rv mk 0 0).length)), .ref b6, .ref b7, .int (nI el), .ref b8, .ref b9, .ref b10])), (b1, .inl (cJ, 512, .inr (.inl vs))), (b2, .inl (cZ, 512, .inl (fun j => bI (ac j)))), (b3, .inl (cI, 8192, .inl (fun j => nI (o9 j)))), (b4, .inl (cJ, 8192, .inr (.inl t8))), (b5, .inl (cJ, 8192, .inr (.inl w9))), (b6, .inl (cJ, 16, .inr (.inl nv))), (b7, .inl (cJ, 16, .inr (.inl dl))), (b8, .inl (cJ, 8208, .inr (.inl rt))), (b9, .inl (cJ, 8208, .inr (.inl rv))), (b10, .inl (cZ, 8208, .inl (fun j => bI (mk j))))]) hP hD [0, 1, 2, 3, 4, 5, 6, 7, 8, 9, 10] [] rfl rfl (by decide) (by decide) hk1 hFc hP1 hD1
      generalize H1 = H at hP hS ⊢
      have hP : va_P (dC, dI) vwCl [(y, .inr (1, [.int (nI 0), .int (nI nD), .int (nI nR), .ref b1, .ref b2, .long now, .ref b3, .ref b4, .ref b5, .int (nI ((wot d zs ++ wmk d rt rv mk 0 0).length)), .ref b6, .ref b7, .int (nI el), .ref b8, .ref b9, .ref b10])), (b1, .inl (cJ, 512, .inr (.inl vs))), (b2, .inl (cZ, 512, .inl (fun j => bI (ac j)))), (b3, .inl (cI, 8192, .inl (fun j => nI (o9 j)))), (b4, .inl (cJ, 8192, .inr (.inl t8))), (b5, .inl (cJ, 8192, .inr (.inl w9))), (b6, .inl (cJ, 16, .inr (.inl nv))), (b7, .inl (cJ, 16, .inr (.inl dl))), (b8, .inl (cJ, 8208, .inr (.inl rt))), (b9, .inl (cJ, 8208, .inr (.inl rv))), (b10, .inl (cZ, 8208, .inl (fun j => bI (mk j))))] H := hP
      have hD : va_D A [(y, .inr (1, [.int (nI 0), .int (nI nD), .int (nI nR), .ref b1, .ref b2, .long now, .ref b3, .ref b4, .ref b5, .int (nI ((wot d zs ++ wmk d rt rv mk 0 0).length)), .ref b6, .ref b7, .int (nI el), .ref b8, .ref b9, .ref b10])), (b1, .inl (cJ, 512, .inr (.inl vs))), (b2, .inl (cZ, 512, .inl (fun j => bI (ac j)))), (b3, .inl (cI, 8192, .inl (fun j => nI (o9 j)))), (b4, .inl (cJ, 8192, .inr (.inl t8))), (b5, .inl (cJ, 8192, .inr (.inl w9))), (b6, .inl (cJ, 16, .inr (.inl nv))), (b7, .inl (cJ, 16, .inr (.inl dl))), (b8, .inl (cJ, 8208, .inr (.inl rt))), (b9, .inl (cJ, 8208, .inr (.inl rv))), (b10, .inl (cZ, 8208, .inl (fun j => bI (mk j))))] := hD
      rw [e9] at hZ9 hP hD
      refine lv_aload_n hx hb dX1_start_38 rfl (lv_at hl 1 rfl) ?_
      refine va_get (D := (dC, dI)) (ci := 1) (v := .ref b1) (C := RX1) (T := TX1) (N := 16) hx hb hall inX1 hown hK hP 0 rfl rfl 3 (by decide) (hall _ kw_326) (fun _ h9 => h9) rfl dX1_start_39 ?_
      refine lv_iload_n hx hb dX1_start_42 rfl (lv_at hl 2 rfl) ?_
      refine lv_lload_n hx hb dX1_start_43 rfl (lv_at hl 3 rfl) ?_
      refine xa_last hx hb hK hP hD hS 1 1 rfl rfl (by omega) (by omega) dX1_start_44 (fun H locs hP hD hS => ?_)
      have hP : va_P (dC, dI) vwCl [(y, .inr (1, [.int (nI 0), .int (nI nD), .int (nI nR), .ref b1, .ref b2, .long now, .ref b3, .ref b4, .ref b5, .int (nI (wot d zs).length), .ref b6, .ref b7, .int (nI el), .ref b8, .ref b9, .ref b10])), (b1, .inl (cJ, 512, .inr (.inl (vp_updL vs d t)))), (b2, .inl (cZ, 512, .inl (fun j => bI (ac j)))), (b3, .inl (cI, 8192, .inl (fun j => nI (o9 j)))), (b4, .inl (cJ, 8192, .inr (.inl t8))), (b5, .inl (cJ, 8192, .inr (.inl w9))), (b6, .inl (cJ, 16, .inr (.inl nv))), (b7, .inl (cJ, 16, .inr (.inl dl))), (b8, .inl (cJ, 8208, .inr (.inl rt))), (b9, .inl (cJ, 8208, .inr (.inl rv))), (b10, .inl (cZ, 8208, .inl (fun j => bI (mk j))))] H := hP
      have hD : va_D A [(y, .inr (1, [.int (nI 0), .int (nI nD), .int (nI nR), .ref b1, .ref b2, .long now, .ref b3, .ref b4, .ref b5, .int (nI (wot d zs).length), .ref b6, .ref b7, .int (nI el), .ref b8, .ref b9, .ref b10])), (b1, .inl (cJ, 512, .inr (.inl (vp_updL vs d t)))), (b2, .inl (cZ, 512, .inl (fun j => bI (ac j)))), (b3, .inl (cI, 8192, .inl (fun j => nI (o9 j)))), (b4, .inl (cJ, 8192, .inr (.inl t8))), (b5, .inl (cJ, 8192, .inr (.inl w9))), (b6, .inl (cJ, 16, .inr (.inl nv))), (b7, .inl (cJ, 16, .inr (.inl dl))), (b8, .inl (cJ, 8208, .inr (.inl rt))), (b9, .inl (cJ, 8208, .inr (.inl rv))), (b10, .inl (cZ, 8208, .inl (fun j => bI (mk j))))] := hD
      refine lv_iload hx hb dX1_start_45 (lv_at hl 0 rfl) ?_
      refine lv_aload_n hx hb dX1_start_47 rfl (lv_at hl 1 rfl) ?_
      refine va_get (D := (dC, dI)) (ci := 1) (v := .int (nI (wot d zs).length)) (C := RX1) (T := TX1) (N := 16) hx hb hall inX1 hown hK hP 0 rfl rfl 9 (by decide) (hall _ kw_332) (fun _ h9 => h9) rfl dX1_start_48 ?_
      refine lv_isub hx hb dX1_start_51 ?_
      refine tp_i (y := nI (zs.length - (wot d zs).length)) (pk_sub hwl) ?_
      exact W.iret (v := nI (zs.length - (wot d zs).length)) hx hb hr (fun t9 ht hW => ⟨⟨nI (zs.length - (wot d zs).length), (), rfl, rfl, o9, t8, w9, hZ9, by rw [ht]; exact hP, va_K.moved hW.alike hK, hD⟩, hS.F ht⟩) hS.2.2 dX1_start_52
    · exact absurd c_4 (by omega)
  · exact absurd rfl c_3
set_option maxHeartbeats 4000000 in
set_option maxRecDepth 100000 in
theorem m_advance1 (l : Launch) (dC : Nat → ClassId) (dI : Nat → Nat → Nat) (y b1 b2 b3 b4 b5 b6 b7 b8 b9 b10 : Nat) (cI cJ cZ : ClassId) (th nD nR : Nat) (vs : Nat → Int64) (ac : Nat → Bool) (now : Int64) (o : Nat → Nat) (mt mw : Nat → Int64) (nv dl : Nat → Int64) (el : Nat) (rt rv : Nat → Int64) (mk : Nat → Bool) (zs : List ZT) (sz : Nat) (t : Int64) (hbad : t < now ∨ 1152921504606846976 < t) : Met l yX1_advance wsX1_advance ({ frames := 0, cells := 0, slots := 0, locals := 0 }) (va_Pc [.ref y, .long t] (fun U => U.heap.size = sz ∧ va_P (dC, dI) vwCl (wm y b1 b2 b3 b4 b5 b6 b7 b8 b9 b10 cI cJ cZ th nD nR vs ac now o mt mw zs.length nv dl el rt rv mk) U.heap ∧ va_K (dC, dI) vwCl [(cI, .int), (cJ, .long), (cZ, .boolean)] U ∧ va_D (fun _ => True) (wm y b1 b2 b3 b4 b5 b6 b7 b8 b9 b10 cI cJ cZ th nD nR vs ac now o mt mw zs.length nv dl el rt rv mk))) (va_Qi (fun (v : Int32) (_ : Unit) => True) (fun _ t9 => va_P (dC, dI) vwCl (wm y b1 b2 b3 b4 b5 b6 b7 b8 b9 b10 cI cJ cZ 1 nD nR vs ac now o mt mw zs.length nv dl el rt rv mk) t9.heap ∧ va_K (dC, dI) vwCl [(cI, .int), (cJ, .long), (cZ, .boolean)] t9 ∧ va_D (va_A (wm y b1 b2 b3 b4 b5 b6 b7 b8 b9 b10 cI cJ cZ th nD nR vs ac now o mt mw zs.length nv dl el rt rv mk) sz) (wm y b1 b2 b3 b4 b5 b6 b7 b8 b9 b10 cI cJ cZ 1 nD nR vs ac now o mt mw zs.length nv dl el rt rv mk)) (va_A (wm y b1 b2 b3 b4 b5 b6 b7 b8 b9 b10 cI cJ cZ th nD nR vs ac now o mt mw zs.length nv dl el rt rv mk) sz)) 0 0 (va_A (wm y b1 b2 b3 b4 b5 b6 b7 b8 b9 b10 cI cJ cZ th nD nR vs ac now o mt mw zs.length nv dl el rt rv mk) sz) := by
  refine Met.ofW (cc := cX1_advance) (maxL := 6) (ret := (some .int)) (by decide) rfl ?_
  intro p e s m args below meth c s₁ B hml hv
  obtain ⟨rfl, hsz, hP, hK, hD0⟩ := hv
  subst hsz
  have hD := hD0.self (sz := s.heap.size)
  generalize hAe : va_A (wm y b1 b2 b3 b4 b5 b6 b7 b8 b9 b10 cI cJ cZ th nD nR vs ac now o mt mw zs.length nv dl el rt rv mk) s.heap.size = A at hD ⊢
  have hA : ∀ q : Nat, s.heap.size ≤ q → A q := fun q h => by rw [← hAe]; exact Or.inr h
  have hS : va_S A s.heap s.heap [] := va_S.rf
  have hx := B.exec
  have hb := B.bytes
  have hr := B.returns
  have hts := atoms_spec (ws := wsX1_advance) B.pre
  have hown : s.vm.findClass RX1 = some m.cls := findClass_of_methodNamed B.named
  have hlocks := B.notSynchronized
  have hall := fun (w : Cond) (h : w ∈ allw) => hts w (List.mem_cons_of_mem _ h)
  have hl := lv_entry ([.ref y, .long t]) (n := 6) (Nat.le_of_ble_eq_true rfl)
  rw [lg_entry_eq]
  generalize (lg_sl ([.ref y, .long t]) ++ List.replicate (6 - (lg_sl ([.ref y, .long t])).length) Slot.unset).toArray = ls at hl ⊢
  have hl : lv_has ls 6 [(0, .ref y), (1, .long t)] := hl
  refine lv_aload_n hx hb dX1_advance_0 rfl (lv_at hl 0 rfl) ?_
  refine lv_lload_n hx hb dX1_advance_1 rfl (lv_at hl 1 rfl) ?_
  refine lv_aload_n hx hb dX1_advance_2 rfl (lv_at hl 0 rfl) ?_
  refine va_get (D := (dC, dI)) (ci := 1) (v := .long now) (C := RX1) (T := TX1) (N := 16) hx hb hall inX1 hown hK hP 0 rfl rfl 5 (by decide) (hall _ kw_328) (fun _ h9 => h9) rfl dX1_advance_3 ?_
  refine xl_lt (tgt := 18) hx hb dX1_advance_6 dX1_advance_7 (by decide) (fun c_1 => ?_) (fun c_1 => ?_)
  · have c_A := c_1
    refine lv_iconst (v := 1) hx hb dX1_advance_18 (by decide) ?_
    refine tp_i (y := nI 1) (by decide) ?_
    refine lv_goto (tgt := 23) hx hb dX1_advance_19 (by decide) ?_
    refine va_put (D := (dC, dI)) (ci := 1) (v := .int (nI 1)) (ty := .int) (C := RX1) (T := TX1) (N := 16) hx hb hall inX1 tyX1 tyX1_ok nmX1 hown hK hP hD hS 0 rfl rfl 0 (by decide) (hall _ kw_323) (fun _ h9 => h9) rfl (by decide +kernel) rfl rfl (Nat.le_of_ble_eq_true rfl) dX1_advance_23 (fun H locs hP hD hS => ?_)
    have hP : va_P (dC, dI) vwCl [(y, .inr (1, [.int (nI 1), .int (nI nD), .int (nI nR), .ref b1, .ref b2, .long now, .ref b3, .ref b4, .ref b5, .int (nI zs.length), .ref b6, .ref b7, .int (nI el), .ref b8, .ref b9, .ref b10])), (b1, .inl (cJ, 512, .inr (.inl vs))), (b2, .inl (cZ, 512, .inl (fun j => bI (ac j)))), (b3, .inl (cI, 8192, .inl (fun j => nI (o j)))), (b4, .inl (cJ, 8192, .inr (.inl mt))), (b5, .inl (cJ, 8192, .inr (.inl mw))), (b6, .inl (cJ, 16, .inr (.inl nv))), (b7, .inl (cJ, 16, .inr (.inl dl))), (b8, .inl (cJ, 8208, .inr (.inl rt))), (b9, .inl (cJ, 8208, .inr (.inl rv))), (b10, .inl (cZ, 8208, .inl (fun j => bI (mk j))))] H := hP
    have hD : va_D A [(y, .inr (1, [.int (nI 1), .int (nI nD), .int (nI nR), .ref b1, .ref b2, .long now, .ref b3, .ref b4, .ref b5, .int (nI zs.length), .ref b6, .ref b7, .int (nI el), .ref b8, .ref b9, .ref b10])), (b1, .inl (cJ, 512, .inr (.inl vs))), (b2, .inl (cZ, 512, .inl (fun j => bI (ac j)))), (b3, .inl (cI, 8192, .inl (fun j => nI (o j)))), (b4, .inl (cJ, 8192, .inr (.inl mt))), (b5, .inl (cJ, 8192, .inr (.inl mw))), (b6, .inl (cJ, 16, .inr (.inl nv))), (b7, .inl (cJ, 16, .inr (.inl dl))), (b8, .inl (cJ, 8208, .inr (.inl rt))), (b9, .inl (cJ, 8208, .inr (.inl rv))), (b10, .inl (cZ, 8208, .inl (fun j => bI (mk j))))] := hD
    refine lv_aload_n hx hb dX1_advance_26 rfl (lv_at hl 0 rfl) ?_
    refine va_get (D := (dC, dI)) (ci := 1) (v := .int (nI 1)) (C := RX1) (T := TX1) (N := 16) hx hb hall inX1 hown hK hP 0 rfl rfl 0 (by decide) (hall _ kw_323) (fun _ h9 => h9) rfl dX1_advance_27 ?_
    refine xz_le (tgt := 35) hx hb (by omega) dX1_advance_30 (by decide) (fun c_2 => ?_) (fun c_2 => ?_)
    · exact absurd c_2 (by omega)
    · refine lv_iconst (v := 0) hx hb dX1_advance_33 (by decide) ?_
      exact W.iret (v := 0) hx hb hr (fun t9 ht hW => ⟨⟨0, (), rfl, trivial, by rw [ht]; exact hP, va_K.moved hW.alike hK, hD⟩, hS.F ht⟩) hS.2.2 dX1_advance_34
  · have c_A := c_1
    refine lv_lload_n hx hb dX1_advance_10 rfl (lv_at hl 1 rfl) ?_
    refine lv_ldc2 (v := 1152921504606846976) hx hb hown (hall _ kw_381) dX1_advance_11 ?_
    refine xl_le (tgt := 22) hx hb dX1_advance_14 dX1_advance_15 (by decide) (fun c_3 => ?_) (fun c_3 => ?_)
    · exact absurd hbad (fun q => q.elim c_A (fun q => absurd q (Int64.not_lt.mpr c_3)))
    · refine lv_iconst (v := 1) hx hb dX1_advance_18 (by decide) ?_
      refine tp_i (y := nI 1) (by decide) ?_
      refine lv_goto (tgt := 23) hx hb dX1_advance_19 (by decide) ?_
      refine va_put (D := (dC, dI)) (ci := 1) (v := .int (nI 1)) (ty := .int) (C := RX1) (T := TX1) (N := 16) hx hb hall inX1 tyX1 tyX1_ok nmX1 hown hK hP hD hS 0 rfl rfl 0 (by decide) (hall _ kw_323) (fun _ h9 => h9) rfl (by decide +kernel) rfl rfl (Nat.le_of_ble_eq_true rfl) dX1_advance_23 (fun H locs hP hD hS => ?_)
      have hP : va_P (dC, dI) vwCl [(y, .inr (1, [.int (nI 1), .int (nI nD), .int (nI nR), .ref b1, .ref b2, .long now, .ref b3, .ref b4, .ref b5, .int (nI zs.length), .ref b6, .ref b7, .int (nI el), .ref b8, .ref b9, .ref b10])), (b1, .inl (cJ, 512, .inr (.inl vs))), (b2, .inl (cZ, 512, .inl (fun j => bI (ac j)))), (b3, .inl (cI, 8192, .inl (fun j => nI (o j)))), (b4, .inl (cJ, 8192, .inr (.inl mt))), (b5, .inl (cJ, 8192, .inr (.inl mw))), (b6, .inl (cJ, 16, .inr (.inl nv))), (b7, .inl (cJ, 16, .inr (.inl dl))), (b8, .inl (cJ, 8208, .inr (.inl rt))), (b9, .inl (cJ, 8208, .inr (.inl rv))), (b10, .inl (cZ, 8208, .inl (fun j => bI (mk j))))] H := hP
      have hD : va_D A [(y, .inr (1, [.int (nI 1), .int (nI nD), .int (nI nR), .ref b1, .ref b2, .long now, .ref b3, .ref b4, .ref b5, .int (nI zs.length), .ref b6, .ref b7, .int (nI el), .ref b8, .ref b9, .ref b10])), (b1, .inl (cJ, 512, .inr (.inl vs))), (b2, .inl (cZ, 512, .inl (fun j => bI (ac j)))), (b3, .inl (cI, 8192, .inl (fun j => nI (o j)))), (b4, .inl (cJ, 8192, .inr (.inl mt))), (b5, .inl (cJ, 8192, .inr (.inl mw))), (b6, .inl (cJ, 16, .inr (.inl nv))), (b7, .inl (cJ, 16, .inr (.inl dl))), (b8, .inl (cJ, 8208, .inr (.inl rt))), (b9, .inl (cJ, 8208, .inr (.inl rv))), (b10, .inl (cZ, 8208, .inl (fun j => bI (mk j))))] := hD
      refine lv_aload_n hx hb dX1_advance_26 rfl (lv_at hl 0 rfl) ?_
      refine va_get (D := (dC, dI)) (ci := 1) (v := .int (nI 1)) (C := RX1) (T := TX1) (N := 16) hx hb hall inX1 hown hK hP 0 rfl rfl 0 (by decide) (hall _ kw_323) (fun _ h9 => h9) rfl dX1_advance_27 ?_
      refine xz_le (tgt := 35) hx hb (by omega) dX1_advance_30 (by decide) (fun c_4 => ?_) (fun c_4 => ?_)
      · exact absurd c_4 (by omega)
      · refine lv_iconst (v := 0) hx hb dX1_advance_33 (by decide) ?_
        exact W.iret (v := 0) hx hb hr (fun t9 ht hW => ⟨⟨0, (), rfl, trivial, by rw [ht]; exact hP, va_K.moved hW.alike hK, hD⟩, hS.F ht⟩) hS.2.2 dX1_advance_34
set_option maxHeartbeats 4000000 in
set_option maxRecDepth 100000 in
theorem m_advance0 (l : Launch) (dC : Nat → ClassId) (dI : Nat → Nat → Nat) (y b1 b2 b3 b4 b5 b6 b7 b8 b9 b10 : Nat) (cI cJ cZ : ClassId) (th nD nR : Nat) (vs : Nat → Int64) (ac : Nat → Bool) (now : Int64) (o : Nat → Nat) (mt mw : Nat → Int64) (nv dl : Nat → Int64) (el : Nat) (rt rv : Nat → Int64) (mk : Nat → Bool) (zs : List ZT) (sz : Nat) (hI : wm_I nD nR el zs) (hZ : wz zs o mt mw) (t : Int64) (h1 : ¬ t < now) (h2 : ¬ 1152921504606846976 < t) : Met l yX1_advance wsX1_advance ({ frames := 0, cells := 0, slots := 0, locals := 0 }) (va_Pc [.ref y, .long t] (fun U => U.heap.size = sz ∧ va_P (dC, dI) vwCl (wm y b1 b2 b3 b4 b5 b6 b7 b8 b9 b10 cI cJ cZ th nD nR vs ac now o mt mw zs.length nv dl el rt rv mk) U.heap ∧ va_K (dC, dI) vwCl [(cI, .int), (cJ, .long), (cZ, .boolean)] U ∧ va_D (fun _ => True) (wm y b1 b2 b3 b4 b5 b6 b7 b8 b9 b10 cI cJ cZ th nD nR vs ac now o mt mw zs.length nv dl el rt rv mk))) (va_Qi (fun (v : Int32) (_ : Unit) => v = nI (wcn (was t zs (wfl ac nD)) nD 0)) (fun _ t9 => ∃ (o9 : Nat → Nat) (t8 w9 : Nat → Int64), wz (wla t zs) o9 t8 w9 ∧ va_P (dC, dI) vwCl (wm y b1 b2 b3 b4 b5 b6 b7 b8 b9 b10 cI cJ cZ 0 nD nR (wvs t zs vs) (was t zs (wfl ac nD)) t o9 t8 w9 ((wla t zs).length) nv dl el rt rv mk) t9.heap ∧ va_K (dC, dI) vwCl [(cI, .int), (cJ, .long), (cZ, .boolean)] t9 ∧ va_D (va_A (wm y b1 b2 b3 b4 b5 b6 b7 b8 b9 b10 cI cJ cZ th nD nR vs ac now o mt mw zs.length nv dl el rt rv mk) sz) (wm y b1 b2 b3 b4 b5 b6 b7 b8 b9 b10 cI cJ cZ 0 nD nR (wvs t zs vs) (was t zs (wfl ac nD)) t o9 t8 w9 ((wla t zs).length) nv dl el rt rv mk)) (va_A (wm y b1 b2 b3 b4 b5 b6 b7 b8 b9 b10 cI cJ cZ th nD nR vs ac now o mt mw zs.length nv dl el rt rv mk) sz)) 0 0 (va_A (wm y b1 b2 b3 b4 b5 b6 b7 b8 b9 b10 cI cJ cZ th nD nR vs ac now o mt mw zs.length nv dl el rt rv mk) sz) := by
  refine Met.ofW (cc := cX1_advance) (maxL := 6) (ret := (some .int)) (by decide) rfl ?_
  intro p e s m args below meth c s₁ B hml hv
  obtain ⟨rfl, hsz, hP, hK, hD0⟩ := hv
  subst hsz
  have hD := hD0.self (sz := s.heap.size)
  generalize hAe : va_A (wm y b1 b2 b3 b4 b5 b6 b7 b8 b9 b10 cI cJ cZ th nD nR vs ac now o mt mw zs.length nv dl el rt rv mk) s.heap.size = A at hD ⊢
  have hA : ∀ q : Nat, s.heap.size ≤ q → A q := fun q h => by rw [← hAe]; exact Or.inr h
  have hS : va_S A s.heap s.heap [] := va_S.rf
  have hx := B.exec
  have hb := B.bytes
  have hr := B.returns
  have hts := atoms_spec (ws := wsX1_advance) B.pre
  have hown : s.vm.findClass RX1 = some m.cls := findClass_of_methodNamed B.named
  have hlocks := B.notSynchronized
  have hall := fun (w : Cond) (h : w ∈ allw) => hts w (List.mem_cons_of_mem _ h)
  have hl := lv_entry ([.ref y, .long t]) (n := 6) (Nat.le_of_ble_eq_true rfl)
  rw [lg_entry_eq]
  generalize (lg_sl ([.ref y, .long t]) ++ List.replicate (6 - (lg_sl ([.ref y, .long t])).length) Slot.unset).toArray = ls at hl ⊢
  have hl : lv_has ls 6 [(0, .ref y), (1, .long t)] := hl
  obtain ⟨hnD1, hnD, hnR1, hnR, hzR, hel, how⟩ := hI
  refine lv_aload_n hx hb dX1_advance_0 rfl (lv_at hl 0 rfl) ?_
  refine lv_lload_n hx hb dX1_advance_1 rfl (lv_at hl 1 rfl) ?_
  refine lv_aload_n hx hb dX1_advance_2 rfl (lv_at hl 0 rfl) ?_
  refine va_get (D := (dC, dI)) (ci := 1) (v := .long now) (C := RX1) (T := TX1) (N := 16) hx hb hall inX1 hown hK hP 0 rfl rfl 5 (by decide) (hall _ kw_328) (fun _ h9 => h9) rfl dX1_advance_3 ?_
  refine xl_lt (tgt := 18) hx hb dX1_advance_6 dX1_advance_7 (by decide) (fun c_1 => ?_) (fun c_1 => ?_)
  · exact absurd c_1 h1
  · refine lv_lload_n hx hb dX1_advance_10 rfl (lv_at hl 1 rfl) ?_
    refine lv_ldc2 (v := 1152921504606846976) hx hb hown (hall _ kw_381) dX1_advance_11 ?_
    refine xl_le (tgt := 22) hx hb dX1_advance_14 dX1_advance_15 (by decide) (fun c_2 => ?_) (fun c_2 => ?_)
    · refine lv_iconst (v := 0) hx hb dX1_advance_22 (by decide) ?_
      refine tp_i (y := nI 0) nI_0.symm ?_
      refine va_put (D := (dC, dI)) (ci := 1) (v := .int (nI 0)) (ty := .int) (C := RX1) (T := TX1) (N := 16) hx hb hall inX1 tyX1 tyX1_ok nmX1 hown hK hP hD hS 0 rfl rfl 0 (by decide) (hall _ kw_323) (fun _ h9 => h9) rfl (by decide +kernel) rfl rfl (Nat.le_of_ble_eq_true rfl) dX1_advance_23 (fun H locs hP hD hS => ?_)
      have hP : va_P (dC, dI) vwCl [(y, .inr (1, [.int (nI 0), .int (nI nD), .int (nI nR), .ref b1, .ref b2, .long now, .ref b3, .ref b4, .ref b5, .int (nI zs.length), .ref b6, .ref b7, .int (nI el), .ref b8, .ref b9, .ref b10])), (b1, .inl (cJ, 512, .inr (.inl vs))), (b2, .inl (cZ, 512, .inl (fun j => bI (ac j)))), (b3, .inl (cI, 8192, .inl (fun j => nI (o j)))), (b4, .inl (cJ, 8192, .inr (.inl mt))), (b5, .inl (cJ, 8192, .inr (.inl mw))), (b6, .inl (cJ, 16, .inr (.inl nv))), (b7, .inl (cJ, 16, .inr (.inl dl))), (b8, .inl (cJ, 8208, .inr (.inl rt))), (b9, .inl (cJ, 8208, .inr (.inl rv))), (b10, .inl (cZ, 8208, .inl (fun j => bI (mk j))))] H := hP
      have hD : va_D A [(y, .inr (1, [.int (nI 0), .int (nI nD), .int (nI nR), .ref b1, .ref b2, .long now, .ref b3, .ref b4, .ref b5, .int (nI zs.length), .ref b6, .ref b7, .int (nI el), .ref b8, .ref b9, .ref b10])), (b1, .inl (cJ, 512, .inr (.inl vs))), (b2, .inl (cZ, 512, .inl (fun j => bI (ac j)))), (b3, .inl (cI, 8192, .inl (fun j => nI (o j)))), (b4, .inl (cJ, 8192, .inr (.inl mt))), (b5, .inl (cJ, 8192, .inr (.inl mw))), (b6, .inl (cJ, 16, .inr (.inl nv))), (b7, .inl (cJ, 16, .inr (.inl dl))), (b8, .inl (cJ, 8208, .inr (.inl rt))), (b9, .inl (cJ, 8208, .inr (.inl rv))), (b10, .inl (cZ, 8208, .inl (fun j => bI (mk j))))] := hD
      refine lv_aload_n hx hb dX1_advance_26 rfl (lv_at hl 0 rfl) ?_
      refine va_get (D := (dC, dI)) (ci := 1) (v := .int (nI 0)) (C := RX1) (T := TX1) (N := 16) hx hb hall inX1 hown hK hP 0 rfl rfl 0 (by decide) (hall _ kw_323) (fun _ h9 => h9) rfl dX1_advance_27 ?_
      refine xz_le (tgt := 35) hx hb (by omega) dX1_advance_30 (by decide) (fun c_3 => ?_) (fun c_3 => ?_)
      · refine lv_aload_n hx hb dX1_advance_35 rfl (lv_at hl 0 rfl) ?_
        refine lv_lload_n hx hb dX1_advance_36 rfl (lv_at hl 1 rfl) ?_
        refine va_put (D := (dC, dI)) (ci := 1) (v := .long t) (ty := .long) (C := RX1) (T := TX1) (N := 16) hx hb hall inX1 tyX1 tyX1_ok nmX1 hown hK hP hD hS 0 rfl rfl 5 (by decide) (hall _ kw_328) (fun _ h9 => h9) rfl (by decide +kernel) rfl rfl (Nat.le_of_ble_eq_true rfl) dX1_advance_37 (fun H locs hP hD hS => ?_)
        have hP : va_P (dC, dI) vwCl [(y, .inr (1, [.int (nI 0), .int (nI nD), .int (nI nR), .ref b1, .ref b2, .long t, .ref b3, .ref b4, .ref b5, .int (nI zs.length), .ref b6, .ref b7, .int (nI el), .ref b8, .ref b9, .ref b10])), (b1, .inl (cJ, 512, .inr (.inl vs))), (b2, .inl (cZ, 512, .inl (fun j => bI (ac j)))), (b3, .inl (cI, 8192, .inl (fun j => nI (o j)))), (b4, .inl (cJ, 8192, .inr (.inl mt))), (b5, .inl (cJ, 8192, .inr (.inl mw))), (b6, .inl (cJ, 16, .inr (.inl nv))), (b7, .inl (cJ, 16, .inr (.inl dl))), (b8, .inl (cJ, 8208, .inr (.inl rt))), (b9, .inl (cJ, 8208, .inr (.inl rv))), (b10, .inl (cZ, 8208, .inl (fun j => bI (mk j))))] H := hP
        have hD : va_D A [(y, .inr (1, [.int (nI 0), .int (nI nD), .int (nI nR), .ref b1, .ref b2, .long t, .ref b3, .ref b4, .ref b5, .int (nI zs.length), .ref b6, .ref b7, .int (nI el), .ref b8, .ref b9, .ref b10])), (b1, .inl (cJ, 512, .inr (.inl vs))), (b2, .inl (cZ, 512, .inl (fun j => bI (ac j)))), (b3, .inl (cI, 8192, .inl (fun j => nI (o j)))), (b4, .inl (cJ, 8192, .inr (.inl mt))), (b5, .inl (cJ, 8192, .inr (.inl mw))), (b6, .inl (cJ, 16, .inr (.inl nv))), (b7, .inl (cJ, 16, .inr (.inl dl))), (b8, .inl (cJ, 8208, .inr (.inl rt))), (b9, .inl (cJ, 8208, .inr (.inl rv))), (b10, .inl (cZ, 8208, .inl (fun j => bI (mk j))))] := hD
        refine lv_iconst (v := 0) hx hb dX1_advance_40 (by decide) ?_
        refine tp_i (y := nI 0) nI_0.symm ?_
        refine lv_istore_n (lv' := [(3, .int (nI 0)), (0, .ref y), (1, .long t)]) hx hb dX1_advance_41 rfl hl (by decide) rfl (fun ls hl => ?_)
        have hloop3 : ∀ (oc : Nat → Nat) (tc vc : Nat → Int64) (H : Heap) (locs : List Loc), wz (wla t zs) oc tc vc → va_P (dC, dI) vwCl [(y, .inr (1, [.int (nI 0), .int (nI nD), .int (nI nR), .ref b1, .ref b2, .long t, .ref b3, .ref b4, .ref b5, .int (nI ((wla t zs).length)), .ref b6, .ref b7, .int (nI el), .ref b8, .ref b9, .ref b10])), (b1, .inl (cJ, 512, .inr (.inl (wvs t zs vs)))), (b2, .inl (cZ, 512, .inl (fun j => bI ((was t zs (wfl ac nD)) j)))), (b3, .inl (cI, 8192, .inl (fun j => nI (oc j)))), (b4, .inl (cJ, 8192, .inr (.inl tc))), (b5, .inl (cJ, 8192, .inr (.inl vc))), (b6, .inl (cJ, 16, .inr (.inl nv))), (b7, .inl (cJ, 16, .inr (.inl dl))), (b8, .inl (cJ, 8208, .inr (.inl rt))), (b9, .inl (cJ, 8208, .inr (.inl rv))), (b10, .inl (cZ, 8208, .inl (fun j => bI (mk j))))] H → va_D A [(y, .inr (1, [.int (nI 0), .int (nI nD), .int (nI nR), .ref b1, .ref b2, .long t, .ref b3, .ref b4, .ref b5, .int (nI ((wla t zs).length)), .ref b6, .ref b7, .int (nI el), .ref b8, .ref b9, .ref b10])), (b1, .inl (cJ, 512, .inr (.inl (wvs t zs vs)))), (b2, .inl (cZ, 512, .inl (fun j => bI ((was t zs (wfl ac nD)) j)))), (b3, .inl (cI, 8192, .inl (fun j => nI (oc j)))), (b4, .inl (cJ, 8192, .inr (.inl tc))), (b5, .inl (cJ, 8192, .inr (.inl vc))), (b6, .inl (cJ, 16, .inr (.inl nv))), (b7, .inl (cJ, 16, .inr (.inl dl))), (b8, .inl (cJ, 8208, .inr (.inl rt))), (b9, .inl (cJ, 8208, .inr (.inl rv))), (b10, .inl (cZ, 8208, .inl (fun j => bI (mk j))))] → va_S A s.heap H locs → ∀ (n k c0 : Nat) (ls : Array Slot), k + n = nD → c0 ≤ k → c0 + wcn (was t zs (wfl ac nD)) n k = wcn (was t zs (wfl ac nD)) nD 0 → lv_has ls 6 [(0, .ref y), (4, .int (nI c0)), (5, .int (nI k))] → W p l e (headSpec wsX1_advance ({ frames := 0, cells := 0, slots := 0, locals := 0 })).room s m (([.ref y, .long t] : List Value).toArray) below meth c H locs 0 0 (MQ below (va_Qi (fun (v : Int32) (_ : Unit) => v = nI (wcn (was t zs (wfl ac nD)) nD 0)) (fun _ t9 => ∃ (o9 : Nat → Nat) (t8 w9 : Nat → Int64), wz (wla t zs) o9 t8 w9 ∧ va_P (dC, dI) vwCl (wm y b1 b2 b3 b4 b5 b6 b7 b8 b9 b10 cI cJ cZ 0 nD nR (wvs t zs vs) (was t zs (wfl ac nD)) t o9 t8 w9 ((wla t zs).length) nv dl el rt rv mk) t9.heap ∧ va_K (dC, dI) vwCl [(cI, .int), (cJ, .long), (cZ, .boolean)] t9 ∧ va_D A (wm y b1 b2 b3 b4 b5 b6 b7 b8 b9 b10 cI cJ cZ 0 nD nR (wvs t zs vs) (was t zs (wfl ac nD)) t o9 t8 w9 ((wla t zs).length) nv dl el rt rv mk)) A) (([.ref y, .long t] : List Value).toArray) s 0 0 A) (F0 m 183 ls []) := by
          intro oc tc vc H locs hF hP hD hS n
          induction n with
          | zero =>
            intro k c0 ls hk hck hc hl
            refine lv_iload hx hb dX1_advance_183 (lv_at hl 2 rfl) ?_
            refine lv_aload_n hx hb dX1_advance_185 rfl (lv_at hl 0 rfl) ?_
            refine va_get (D := (dC, dI)) (ci := 1) (v := .int (nI nD)) (C := RX1) (T := TX1) (N := 16) hx hb hall inX1 hown hK hP 0 rfl rfl 1 (by decide) (hall _ kw_324) (fun _ h9 => h9) rfl dX1_advance_186 ?_
            refine xc_ge (tgt := 219) hx hb (by omega) (by omega) dX1_advance_189 (by decide) (fun c_4 => ?_) (fun c_4 => ?_)
            · refine lv_iload hx hb dX1_advance_219 (lv_at hl 1 rfl) ?_
              exact W.iret (v := nI c0) hx hb hr (fun t9 ht hW => ⟨⟨nI c0, (), rfl, congrArg nI hc, oc, tc, vc, hF, by rw [ht]; exact hP, va_K.moved hW.alike hK, hD⟩, hS.F ht⟩) hS.2.2 dX1_advance_221
            · exact absurd c_4 (by omega)
          | succ n ih =>
            intro k c0 ls hk hck hc hl
            refine lv_iload hx hb dX1_advance_183 (lv_at hl 2 rfl) ?_
            refine lv_aload_n hx hb dX1_advance_185 rfl (lv_at hl 0 rfl) ?_
            refine va_get (D := (dC, dI)) (ci := 1) (v := .int (nI nD)) (C := RX1) (T := TX1) (N := 16) hx hb hall inX1 hown hK hP 0 rfl rfl 1 (by decide) (hall _ kw_324) (fun _ h9 => h9) rfl dX1_advance_186 ?_
            refine xc_ge (tgt := 219) hx hb (by omega) (by omega) dX1_advance_189 (by decide) (fun c_5 => ?_) (fun c_5 => ?_)
            · exact absurd c_5 (by omega)
            · refine lv_aload_n hx hb dX1_advance_192 rfl (lv_at hl 0 rfl) ?_
              refine va_get (D := (dC, dI)) (ci := 1) (v := .ref b2) (C := RX1) (T := TX1) (N := 16) hx hb hall inX1 hown hK hP 0 rfl rfl 4 (by decide) (hall _ kw_327) (fun _ h9 => h9) rfl dX1_advance_193 ?_
              refine lv_iload hx hb dX1_advance_196 (lv_at hl 2 rfl) ?_
              refine xa_zald hx hb hK hP 2 2 rfl rfl (by omega) (by omega) dX1_advance_198 ?_
              refine xb_eq (tgt := 209) hx hb dX1_advance_199 (by decide) (fun c_6 => ?_) (fun c_6 => ?_)
              · have c_A := c_6
                refine lv_iload hx hb dX1_advance_209 (lv_at hl 1 rfl) ?_
                refine lv_istore (lv' := [(4, .int (nI c0)), (0, .ref y), (5, .int (nI k))]) hx hb dX1_advance_211 hl (by decide) rfl (fun ls hl => ?_)
                refine lv_iinc (v := nI (k + 1)) (lv' := [(5, .int (nI (k + 1))), (4, .int (nI c0)), (0, .ref y)]) hx hb dX1_advance_213 hl (k := 2) rfl (nI_1 k) (by decide) rfl (fun ls hl => ?_)
                refine lv_goto (tgt := 183) hx hb dX1_advance_216 (by decide) ?_
                exact ih (k + 1) (c0) ls (by omega) (by omega) (by rw [← hc]; show _ = _ + ((if was t zs (wfl ac nD) k = true then 1 else 0) + _); first | rw [if_pos c_A]; omega | rw [if_neg (by rw [c_A]; decide)]; omega) (lv_sub hl [2, 1, 0] rfl)
              · have c_A := c_6
                refine lv_iload hx hb dX1_advance_202 (lv_at hl 1 rfl) ?_
                refine lv_iconst (v := 1) hx hb dX1_advance_204 (by decide) ?_
                refine lv_iadd hx hb dX1_advance_205 ?_
                refine tp_i (y := nI (c0 + 1)) (nI_1 c0) ?_
                refine lv_goto (tgt := 211) hx hb dX1_advance_206 (by decide) ?_
                refine lv_istore (lv' := [(4, .int (nI (c0 + 1))), (0, .ref y), (5, .int (nI k))]) hx hb dX1_advance_211 hl (by decide) rfl (fun ls hl => ?_)
                refine lv_iinc (v := nI (k + 1)) (lv' := [(5, .int (nI (k + 1))), (4, .int (nI (c0 + 1))), (0, .ref y)]) hx hb dX1_advance_213 hl (k := 2) rfl (nI_1 k) (by decide) rfl (fun ls hl => ?_)
                refine lv_goto (tgt := 183) hx hb dX1_advance_216 (by decide) ?_
                exact ih (k + 1) (c0 + 1) ls (by omega) (by omega) (by rw [← hc]; show _ = _ + ((if was t zs (wfl ac nD) k = true then 1 else 0) + _); first | rw [if_pos c_A]; omega | rw [if_neg (by rw [c_A]; decide)]; omega) (lv_sub hl [2, 1, 0] rfl)
        have hloop2 : ∀ (ss : List ZT) (k : Nat) (F : List ZT) (oc : Nat → Nat) (tc vc vsc : Nat → Int64) (acc : Nat → Bool) (H : Heap) (locs : List Loc) (ls : Array Slot), zs.drop k = ss → k ≤ zs.length → F.length ≤ k → wz F oc tc vc → (∀ j, k ≤ j → oc j = o j ∧ tc j = mt j ∧ vc j = mw j) → F ++ wla t ss = wla t zs → wvs t ss vsc = wvs t zs vs → was t ss acc = was t zs (wfl ac nD) → va_P (dC, dI) vwCl [(y, .inr (1, [.int (nI 0), .int (nI nD), .int (nI nR), .ref b1, .ref b2, .long t, .ref b3, .ref b4, .ref b5, .int (nI zs.length), .ref b6, .ref b7, .int (nI el), .ref b8, .ref b9, .ref b10])), (b1, .inl (cJ, 512, .inr (.inl vsc))), (b2, .inl (cZ, 512, .inl (fun j => bI (acc j)))), (b3, .inl (cI, 8192, .inl (fun j => nI (oc j)))), (b4, .inl (cJ, 8192, .inr (.inl tc))), (b5, .inl (cJ, 8192, .inr (.inl vc))), (b6, .inl (cJ, 16, .inr (.inl nv))), (b7, .inl (cJ, 16, .inr (.inl dl))), (b8, .inl (cJ, 8208, .inr (.inl rt))), (b9, .inl (cJ, 8208, .inr (.inl rv))), (b10, .inl (cZ, 8208, .inl (fun j => bI (mk j))))] H → va_D A [(y, .inr (1, [.int (nI 0), .int (nI nD), .int (nI nR), .ref b1, .ref b2, .long t, .ref b3, .ref b4, .ref b5, .int (nI zs.length), .ref b6, .ref b7, .int (nI el), .ref b8, .ref b9, .ref b10])), (b1, .inl (cJ, 512, .inr (.inl vsc))), (b2, .inl (cZ, 512, .inl (fun j => bI (acc j)))), (b3, .inl (cI, 8192, .inl (fun j => nI (oc j)))), (b4, .inl (cJ, 8192, .inr (.inl tc))), (b5, .inl (cJ, 8192, .inr (.inl vc))), (b6, .inl (cJ, 16, .inr (.inl nv))), (b7, .inl (cJ, 16, .inr (.inl dl))), (b8, .inl (cJ, 8208, .inr (.inl rt))), (b9, .inl (cJ, 8208, .inr (.inl rv))), (b10, .inl (cZ, 8208, .inl (fun j => bI (mk j))))] → va_S A s.heap H locs → lv_has ls 6 [(0, .ref y), (1, .long t), (3, .int (nI F.length)), (4, .int (nI k))] → W p l e (headSpec wsX1_advance ({ frames := 0, cells := 0, slots := 0, locals := 0 })).room s m (([.ref y, .long t] : List Value).toArray) below meth c H locs 0 0 (MQ below (va_Qi (fun (v : Int32) (_ : Unit) => v = nI (wcn (was t zs (wfl ac nD)) nD 0)) (fun _ t9 => ∃ (o9 : Nat → Nat) (t8 w9 : Nat → Int64), wz (wla t zs) o9 t8 w9 ∧ va_P (dC, dI) vwCl (wm y b1 b2 b3 b4 b5 b6 b7 b8 b9 b10 cI cJ cZ 0 nD nR (wvs t zs vs) (was t zs (wfl ac nD)) t o9 t8 w9 ((wla t zs).length) nv dl el rt rv mk) t9.heap ∧ va_K (dC, dI) vwCl [(cI, .int), (cJ, .long), (cZ, .boolean)] t9 ∧ va_D A (wm y b1 b2 b3 b4 b5 b6 b7 b8 b9 b10 cI cJ cZ 0 nD nR (wvs t zs vs) (was t zs (wfl ac nD)) t o9 t8 w9 ((wla t zs).length) nv dl el rt rv mk)) A) (([.ref y, .long t] : List Value).toArray) s 0 0 A) (F0 m 68 ls []) := by
          intro ss
          induction ss with
          | nil =>
            intro k F oc tc vc vsc acc H locs ls hss hkl hFk hF hO hE hvs hac hP hD hS hl
            have hk := wz_nil hss
            obtain rfl : F = wla t zs := (List.append_nil F).symm.trans hE
            obtain rfl : vsc = wvs t zs vs := hvs
            obtain rfl : acc = was t zs (wfl ac nD) := hac
            refine lv_iload hx hb dX1_advance_68 (lv_at hl 3 rfl) ?_
            refine lv_aload_n hx hb dX1_advance_70 rfl (lv_at hl 0 rfl) ?_
            refine va_get (D := (dC, dI)) (ci := 1) (v := .int (nI zs.length)) (C := RX1) (T := TX1) (N := 16) hx hb hall inX1 hown hK hP 0 rfl rfl 9 (by decide) (hall _ kw_332) (fun _ h9 => h9) rfl dX1_advance_71 ?_
            refine xc_ge (tgt := 172) hx hb (by omega) (by omega) dX1_advance_74 (by decide) (fun c_7 => ?_) (fun c_7 => ?_)
            · refine lv_aload_n hx hb dX1_advance_172 rfl (lv_at hl 0 rfl) ?_
              refine lv_iload_n hx hb dX1_advance_173 rfl (lv_at hl 2 rfl) ?_
              refine va_put (D := (dC, dI)) (ci := 1) (v := .int (nI (wla t zs).length)) (ty := .int) (C := RX1) (T := TX1) (N := 16) hx hb hall inX1 tyX1 tyX1_ok nmX1 hown hK hP hD hS 0 rfl rfl 9 (by decide) (hall _ kw_332) (fun _ h9 => h9) rfl (by decide +kernel) rfl rfl (Nat.le_of_ble_eq_true rfl) dX1_advance_174 (fun H locs hP hD hS => ?_)
              have hP : va_P (dC, dI) vwCl [(y, .inr (1, [.int (nI 0), .int (nI nD), .int (nI nR), .ref b1, .ref b2, .long t, .ref b3, .ref b4, .ref b5, .int (nI (wla t zs).length), .ref b6, .ref b7, .int (nI el), .ref b8, .ref b9, .ref b10])), (b1, .inl (cJ, 512, .inr (.inl (wvs t zs vs)))), (b2, .inl (cZ, 512, .inl (fun j => bI ((was t zs (wfl ac nD)) j)))), (b3, .inl (cI, 8192, .inl (fun j => nI (oc j)))), (b4, .inl (cJ, 8192, .inr (.inl tc))), (b5, .inl (cJ, 8192, .inr (.inl vc))), (b6, .inl (cJ, 16, .inr (.inl nv))), (b7, .inl (cJ, 16, .inr (.inl dl))), (b8, .inl (cJ, 8208, .inr (.inl rt))), (b9, .inl (cJ, 8208, .inr (.inl rv))), (b10, .inl (cZ, 8208, .inl (fun j => bI (mk j))))] H := hP
              have hD : va_D A [(y, .inr (1, [.int (nI 0), .int (nI nD), .int (nI nR), .ref b1, .ref b2, .long t, .ref b3, .ref b4, .ref b5, .int (nI (wla t zs).length), .ref b6, .ref b7, .int (nI el), .ref b8, .ref b9, .ref b10])), (b1, .inl (cJ, 512, .inr (.inl (wvs t zs vs)))), (b2, .inl (cZ, 512, .inl (fun j => bI ((was t zs (wfl ac nD)) j)))), (b3, .inl (cI, 8192, .inl (fun j => nI (oc j)))), (b4, .inl (cJ, 8192, .inr (.inl tc))), (b5, .inl (cJ, 8192, .inr (.inl vc))), (b6, .inl (cJ, 16, .inr (.inl nv))), (b7, .inl (cJ, 16, .inr (.inl dl))), (b8, .inl (cJ, 8208, .inr (.inl rt))), (b9, .inl (cJ, 8208, .inr (.inl rv))), (b10, .inl (cZ, 8208, .inl (fun j => bI (mk j))))] := hD
              refine lv_iconst (v := 0) hx hb dX1_advance_177 (by decide) ?_
              refine tp_i (y := nI 0) nI_0.symm ?_
              refine lv_istore (lv' := [(4, .int (nI 0)), (0, .ref y), (1, .long t), (3, .int (nI (wla t zs).length))]) hx hb dX1_advance_178 hl (by decide) rfl (fun ls hl => ?_)
              refine lv_iconst (v := 0) hx hb dX1_advance_180 (by decide) ?_
              refine tp_i (y := nI 0) nI_0.symm ?_
              refine lv_istore (lv' := [(5, .int (nI 0)), (4, .int (nI 0)), (0, .ref y), (1, .long t), (3, .int (nI (wla t zs).length))]) hx hb dX1_advance_181 hl (by decide) rfl (fun ls hl => ?_)
              exact hloop3 oc tc vc H locs hF hP hD hS nD 0 0 ls (by omega) (by omega) (by omega) (lv_sub hl [2, 1, 0] rfl)
            · exact absurd c_7 (by omega)
          | cons z tl ih =>
            intro k F oc tc vc vsc acc H locs ls hss hkl hFk hF hO hE hvs hac hP hD hS hl
            obtain ⟨hk, hzk, htl⟩ := wz_drop hss
            obtain ⟨ez1, ez2, ez3⟩ := hZ k z hzk
            have hod := how z (List.mem_of_getElem? hzk)
            refine lv_iload hx hb dX1_advance_68 (lv_at hl 3 rfl) ?_
            refine lv_aload_n hx hb dX1_advance_70 rfl (lv_at hl 0 rfl) ?_
            refine va_get (D := (dC, dI)) (ci := 1) (v := .int (nI zs.length)) (C := RX1) (T := TX1) (N := 16) hx hb hall inX1 hown hK hP 0 rfl rfl 9 (by decide) (hall _ kw_332) (fun _ h9 => h9) rfl dX1_advance_71 ?_
            refine xc_ge (tgt := 172) hx hb (by omega) (by omega) dX1_advance_74 (by decide) (fun c_8 => ?_) (fun c_8 => ?_)
            · exact absurd c_8 (by omega)
            · refine lv_aload_n hx hb dX1_advance_77 rfl (lv_at hl 0 rfl) ?_
              refine va_get (D := (dC, dI)) (ci := 1) (v := .ref b4) (C := RX1) (T := TX1) (N := 16) hx hb hall inX1 hown hK hP 0 rfl rfl 7 (by decide) (hall _ kw_330) (fun _ h9 => h9) rfl dX1_advance_78 ?_
              refine lv_iload hx hb dX1_advance_81 (lv_at hl 3 rfl) ?_
              refine xa_lald hx hb hK hP 4 1 rfl rfl (by omega) (by omega) dX1_advance_83 ?_
              refine tp_l (y := z.2.1) ((hO k (Nat.le_refl k)).2.1.trans ez2) ?_
              refine lv_lload_n hx hb dX1_advance_84 rfl (lv_at hl 1 rfl) ?_
              refine xl_gt (tgt := 124) hx hb dX1_advance_85 dX1_advance_86 (by decide) (fun c_9 => ?_) (fun c_9 => ?_)
              · have c_A := c_9
                refine lv_aload_n hx hb dX1_advance_124 rfl (lv_at hl 0 rfl) ?_
                refine va_get (D := (dC, dI)) (ci := 1) (v := .ref b3) (C := RX1) (T := TX1) (N := 16) hx hb hall inX1 hown hK hP 0 rfl rfl 6 (by decide) (hall _ kw_329) (fun _ h9 => h9) rfl dX1_advance_125 ?_
                refine lv_iload_n hx hb dX1_advance_128 rfl (lv_at hl 2 rfl) ?_
                refine lv_aload_n hx hb dX1_advance_129 rfl (lv_at hl 0 rfl) ?_
                refine va_get (D := (dC, dI)) (ci := 1) (v := .ref b3) (C := RX1) (T := TX1) (N := 16) hx hb hall inX1 hown hK hP 0 rfl rfl 6 (by decide) (hall _ kw_329) (fun _ h9 => h9) rfl dX1_advance_130 ?_
                refine lv_iload hx hb dX1_advance_133 (lv_at hl 3 rfl) ?_
                refine xa_iald hx hb hK hP 3 0 rfl rfl (by omega) (by omega) dX1_advance_135 ?_
                refine tp_i (y := nI z.1) (by rw [(hO k (Nat.le_refl k)).1, ez1]) ?_
                refine xa_iast hx hb hK hP hD hS 3 0 rfl rfl (by omega) (by omega) dX1_advance_136 (fun H locs hP hD hS => ?_)
                have hP : va_P (dC, dI) vwCl [(y, .inr (1, [.int (nI 0), .int (nI nD), .int (nI nR), .ref b1, .ref b2, .long t, .ref b3, .ref b4, .ref b5, .int (nI zs.length), .ref b6, .ref b7, .int (nI el), .ref b8, .ref b9, .ref b10])), (b1, .inl (cJ, 512, .inr (.inl vsc))), (b2, .inl (cZ, 512, .inl (fun j => bI (acc j)))), (b3, .inl (cI, 8192, .inl (upd (fun j => nI (oc j)) F.length (nI z.1)))), (b4, .inl (cJ, 8192, .inr (.inl tc))), (b5, .inl (cJ, 8192, .inr (.inl vc))), (b6, .inl (cJ, 16, .inr (.inl nv))), (b7, .inl (cJ, 16, .inr (.inl dl))), (b8, .inl (cJ, 8208, .inr (.inl rt))), (b9, .inl (cJ, 8208, .inr (.inl rv))), (b10, .inl (cZ, 8208, .inl (fun j => bI (mk j))))] H := hP
                have hD : va_D A [(y, .inr (1, [.int (nI 0), .int (nI nD), .int (nI nR), .ref b1, .ref b2, .long t, .ref b3, .ref b4, .ref b5, .int (nI zs.length), .ref b6, .ref b7, .int (nI el), .ref b8, .ref b9, .ref b10])), (b1, .inl (cJ, 512, .inr (.inl vsc))), (b2, .inl (cZ, 512, .inl (fun j => bI (acc j)))), (b3, .inl (cI, 8192, .inl (upd (fun j => nI (oc j)) F.length (nI z.1)))), (b4, .inl (cJ, 8192, .inr (.inl tc))), (b5, .inl (cJ, 8192, .inr (.inl vc))), (b6, .inl (cJ, 16, .inr (.inl nv))), (b7, .inl (cJ, 16, .inr (.inl dl))), (b8, .inl (cJ, 8208, .inr (.inl rt))), (b9, .inl (cJ, 8208, .inr (.inl rv))), (b10, .inl (cZ, 8208, .inl (fun j => bI (mk j))))] := hD
                rw [un_nI] at hP hD
                refine lv_aload_n hx hb dX1_advance_137 rfl (lv_at hl 0 rfl) ?_
                refine va_get (D := (dC, dI)) (ci := 1) (v := .ref b4) (C := RX1) (T := TX1) (N := 16) hx hb hall inX1 hown hK hP 0 rfl rfl 7 (by decide) (hall _ kw_330) (fun _ h9 => h9) rfl dX1_advance_138 ?_
                refine lv_iload_n hx hb dX1_advance_141 rfl (lv_at hl 2 rfl) ?_
                refine lv_aload_n hx hb dX1_advance_142 rfl (lv_at hl 0 rfl) ?_
                refine va_get (D := (dC, dI)) (ci := 1) (v := .ref b4) (C := RX1) (T := TX1) (N := 16) hx hb hall inX1 hown hK hP 0 rfl rfl 7 (by decide) (hall _ kw_330) (fun _ h9 => h9) rfl dX1_advance_143 ?_
                refine lv_iload hx hb dX1_advance_146 (lv_at hl 3 rfl) ?_
                refine xa_lald hx hb hK hP 4 1 rfl rfl (by omega) (by omega) dX1_advance_148 ?_
                refine tp_l (y := z.2.1) ((hO k (Nat.le_refl k)).2.1.trans ez2) ?_
                refine xa_last hx hb hK hP hD hS 4 1 rfl rfl (by omega) (by omega) dX1_advance_149 (fun H locs hP hD hS => ?_)
                have hP : va_P (dC, dI) vwCl [(y, .inr (1, [.int (nI 0), .int (nI nD), .int (nI nR), .ref b1, .ref b2, .long t, .ref b3, .ref b4, .ref b5, .int (nI zs.length), .ref b6, .ref b7, .int (nI el), .ref b8, .ref b9, .ref b10])), (b1, .inl (cJ, 512, .inr (.inl vsc))), (b2, .inl (cZ, 512, .inl (fun j => bI (acc j)))), (b3, .inl (cI, 8192, .inl (fun j => nI (un oc F.length z.1 j)))), (b4, .inl (cJ, 8192, .inr (.inl (vp_updL tc F.length z.2.1)))), (b5, .inl (cJ, 8192, .inr (.inl vc))), (b6, .inl (cJ, 16, .inr (.inl nv))), (b7, .inl (cJ, 16, .inr (.inl dl))), (b8, .inl (cJ, 8208, .inr (.inl rt))), (b9, .inl (cJ, 8208, .inr (.inl rv))), (b10, .inl (cZ, 8208, .inl (fun j => bI (mk j))))] H := hP
                have hD : va_D A [(y, .inr (1, [.int (nI 0), .int (nI nD), .int (nI nR), .ref b1, .ref b2, .long t, .ref b3, .ref b4, .ref b5, .int (nI zs.length), .ref b6, .ref b7, .int (nI el), .ref b8, .ref b9, .ref b10])), (b1, .inl (cJ, 512, .inr (.inl vsc))), (b2, .inl (cZ, 512, .inl (fun j => bI (acc j)))), (b3, .inl (cI, 8192, .inl (fun j => nI (un oc F.length z.1 j)))), (b4, .inl (cJ, 8192, .inr (.inl (vp_updL tc F.length z.2.1)))), (b5, .inl (cJ, 8192, .inr (.inl vc))), (b6, .inl (cJ, 16, .inr (.inl nv))), (b7, .inl (cJ, 16, .inr (.inl dl))), (b8, .inl (cJ, 8208, .inr (.inl rt))), (b9, .inl (cJ, 8208, .inr (.inl rv))), (b10, .inl (cZ, 8208, .inl (fun j => bI (mk j))))] := hD
                refine lv_aload_n hx hb dX1_advance_150 rfl (lv_at hl 0 rfl) ?_
                refine va_get (D := (dC, dI)) (ci := 1) (v := .ref b5) (C := RX1) (T := TX1) (N := 16) hx hb hall inX1 hown hK hP 0 rfl rfl 8 (by decide) (hall _ kw_331) (fun _ h9 => h9) rfl dX1_advance_151 ?_
                refine lv_iload_n hx hb dX1_advance_154 rfl (lv_at hl 2 rfl) ?_
                refine lv_aload_n hx hb dX1_advance_155 rfl (lv_at hl 0 rfl) ?_
                refine va_get (D := (dC, dI)) (ci := 1) (v := .ref b5) (C := RX1) (T := TX1) (N := 16) hx hb hall inX1 hown hK hP 0 rfl rfl 8 (by decide) (hall _ kw_331) (fun _ h9 => h9) rfl dX1_advance_156 ?_
                refine lv_iload hx hb dX1_advance_159 (lv_at hl 3 rfl) ?_
                refine xa_lald hx hb hK hP 5 1 rfl rfl (by omega) (by omega) dX1_advance_161 ?_
                refine tp_l (y := z.2.2) ((hO k (Nat.le_refl k)).2.2.trans ez3) ?_
                refine xa_last hx hb hK hP hD hS 5 1 rfl rfl (by omega) (by omega) dX1_advance_162 (fun H locs hP hD hS => ?_)
                have hP : va_P (dC, dI) vwCl [(y, .inr (1, [.int (nI 0), .int (nI nD), .int (nI nR), .ref b1, .ref b2, .long t, .ref b3, .ref b4, .ref b5, .int (nI zs.length), .ref b6, .ref b7, .int (nI el), .ref b8, .ref b9, .ref b10])), (b1, .inl (cJ, 512, .inr (.inl vsc))), (b2, .inl (cZ, 512, .inl (fun j => bI (acc j)))), (b3, .inl (cI, 8192, .inl (fun j => nI (un oc F.length z.1 j)))), (b4, .inl (cJ, 8192, .inr (.inl (vp_updL tc F.length z.2.1)))), (b5, .inl (cJ, 8192, .inr (.inl (vp_updL vc F.length z.2.2)))), (b6, .inl (cJ, 16, .inr (.inl nv))), (b7, .inl (cJ, 16, .inr (.inl dl))), (b8, .inl (cJ, 8208, .inr (.inl rt))), (b9, .inl (cJ, 8208, .inr (.inl rv))), (b10, .inl (cZ, 8208, .inl (fun j => bI (mk j))))] H := hP
                have hD : va_D A [(y, .inr (1, [.int (nI 0), .int (nI nD), .int (nI nR), .ref b1, .ref b2, .long t, .ref b3, .ref b4, .ref b5, .int (nI zs.length), .ref b6, .ref b7, .int (nI el), .ref b8, .ref b9, .ref b10])), (b1, .inl (cJ, 512, .inr (.inl vsc))), (b2, .inl (cZ, 512, .inl (fun j => bI (acc j)))), (b3, .inl (cI, 8192, .inl (fun j => nI (un oc F.length z.1 j)))), (b4, .inl (cJ, 8192, .inr (.inl (vp_updL tc F.length z.2.1)))), (b5, .inl (cJ, 8192, .inr (.inl (vp_updL vc F.length z.2.2)))), (b6, .inl (cJ, 16, .inr (.inl nv))), (b7, .inl (cJ, 16, .inr (.inl dl))), (b8, .inl (cJ, 8208, .inr (.inl rt))), (b9, .inl (cJ, 8208, .inr (.inl rv))), (b10, .inl (cZ, 8208, .inl (fun j => bI (mk j))))] := hD
                refine lv_iinc (v := nI (F.length + 1)) (lv' := [(3, .int (nI (F.length + 1))), (0, .ref y), (1, .long t), (4, .int (nI k))]) hx hb dX1_advance_163 hl (k := 2) rfl (nI_1 _) (by decide) rfl (fun ls hl => ?_)
                refine lv_iinc (v := nI (k + 1)) (lv' := [(4, .int (nI (k + 1))), (3, .int (nI (F.length + 1))), (0, .ref y), (1, .long t)]) hx hb dX1_advance_166 hl (k := 3) rfl (nI_1 k) (by decide) rfl (fun ls hl => ?_)
                refine lv_goto (tgt := 68) hx hb dX1_advance_169 (by decide) ?_
                exact ih (k + 1) (F ++ [z]) _ _ _ vsc acc H locs ls htl (by omega) (by rw [wz_len]; omega) (wz_push z hF) (fun j hj => ⟨(if_neg (by omega)).trans (hO j (by omega)).1, (pk_uLn (by omega)).trans (hO j (by omega)).2.1, (pk_uLn (by omega)).trans (hO j (by omega)).2.2⟩) (by rw [← hE, wla_take c_A, List.append_assoc]; rfl) (by rw [← hvs]; show _ = wvs t tl (if t < z.2.1 then _ else _); rw [if_pos c_A]) (by rw [← hac]; show _ = was t tl (if t < z.2.1 then _ else _); rw [if_pos c_A]) hP hD hS (by rw [wz_len]; exact lv_sub hl [2, 3, 1, 0] rfl)
              · have c_A := c_9
                refine lv_aload_n hx hb dX1_advance_89 rfl (lv_at hl 0 rfl) ?_
                refine va_get (D := (dC, dI)) (ci := 1) (v := .ref b2) (C := RX1) (T := TX1) (N := 16) hx hb hall inX1 hown hK hP 0 rfl rfl 4 (by decide) (hall _ kw_327) (fun _ h9 => h9) rfl dX1_advance_90 ?_
                refine lv_aload_n hx hb dX1_advance_93 rfl (lv_at hl 0 rfl) ?_
                refine va_get (D := (dC, dI)) (ci := 1) (v := .ref b3) (C := RX1) (T := TX1) (N := 16) hx hb hall inX1 hown hK hP 0 rfl rfl 6 (by decide) (hall _ kw_329) (fun _ h9 => h9) rfl dX1_advance_94 ?_
                refine lv_iload hx hb dX1_advance_97 (lv_at hl 3 rfl) ?_
                refine xa_iald hx hb hK hP 3 0 rfl rfl (by omega) (by omega) dX1_advance_99 ?_
                refine tp_i (y := nI z.1) (by rw [(hO k (Nat.le_refl k)).1, ez1]) ?_
                refine lv_iconst (v := 1) hx hb dX1_advance_100 (by decide) ?_
                refine tp_i (y := bI true) bI_t ?_
                refine xa_zast hx hb hK hP hD hS 2 2 rfl rfl (by omega) (by omega) dX1_advance_101 (fun H locs hP hD hS => ?_)
                have hP : va_P (dC, dI) vwCl [(y, .inr (1, [.int (nI 0), .int (nI nD), .int (nI nR), .ref b1, .ref b2, .long t, .ref b3, .ref b4, .ref b5, .int (nI zs.length), .ref b6, .ref b7, .int (nI el), .ref b8, .ref b9, .ref b10])), (b1, .inl (cJ, 512, .inr (.inl vsc))), (b2, .inl (cZ, 512, .inl (fun j => bI (ub acc z.1 true j)))), (b3, .inl (cI, 8192, .inl (fun j => nI (oc j)))), (b4, .inl (cJ, 8192, .inr (.inl tc))), (b5, .inl (cJ, 8192, .inr (.inl vc))), (b6, .inl (cJ, 16, .inr (.inl nv))), (b7, .inl (cJ, 16, .inr (.inl dl))), (b8, .inl (cJ, 8208, .inr (.inl rt))), (b9, .inl (cJ, 8208, .inr (.inl rv))), (b10, .inl (cZ, 8208, .inl (fun j => bI (mk j))))] H := hP
                have hD : va_D A [(y, .inr (1, [.int (nI 0), .int (nI nD), .int (nI nR), .ref b1, .ref b2, .long t, .ref b3, .ref b4, .ref b5, .int (nI zs.length), .ref b6, .ref b7, .int (nI el), .ref b8, .ref b9, .ref b10])), (b1, .inl (cJ, 512, .inr (.inl vsc))), (b2, .inl (cZ, 512, .inl (fun j => bI (ub acc z.1 true j)))), (b3, .inl (cI, 8192, .inl (fun j => nI (oc j)))), (b4, .inl (cJ, 8192, .inr (.inl tc))), (b5, .inl (cJ, 8192, .inr (.inl vc))), (b6, .inl (cJ, 16, .inr (.inl nv))), (b7, .inl (cJ, 16, .inr (.inl dl))), (b8, .inl (cJ, 8208, .inr (.inl rt))), (b9, .inl (cJ, 8208, .inr (.inl rv))), (b10, .inl (cZ, 8208, .inl (fun j => bI (mk j))))] := hD
                refine lv_aload_n hx hb dX1_advance_102 rfl (lv_at hl 0 rfl) ?_
                refine va_get (D := (dC, dI)) (ci := 1) (v := .ref b1) (C := RX1) (T := TX1) (N := 16) hx hb hall inX1 hown hK hP 0 rfl rfl 3 (by decide) (hall _ kw_326) (fun _ h9 => h9) rfl dX1_advance_103 ?_
                refine lv_aload_n hx hb dX1_advance_106 rfl (lv_at hl 0 rfl) ?_
                refine va_get (D := (dC, dI)) (ci := 1) (v := .ref b3) (C := RX1) (T := TX1) (N := 16) hx hb hall inX1 hown hK hP 0 rfl rfl 6 (by decide) (hall _ kw_329) (fun _ h9 => h9) rfl dX1_advance_107 ?_
                refine lv_iload hx hb dX1_advance_110 (lv_at hl 3 rfl) ?_
                refine xa_iald hx hb hK hP 3 0 rfl rfl (by omega) (by omega) dX1_advance_112 ?_
                refine tp_i (y := nI z.1) (by rw [(hO k (Nat.le_refl k)).1, ez1]) ?_
                refine lv_aload_n hx hb dX1_advance_113 rfl (lv_at hl 0 rfl) ?_
                refine va_get (D := (dC, dI)) (ci := 1) (v := .ref b5) (C := RX1) (T := TX1) (N := 16) hx hb hall inX1 hown hK hP 0 rfl rfl 8 (by decide) (hall _ kw_331) (fun _ h9 => h9) rfl dX1_advance_114 ?_
                refine lv_iload hx hb dX1_advance_117 (lv_at hl 3 rfl) ?_
                refine xa_lald hx hb hK hP 5 1 rfl rfl (by omega) (by omega) dX1_advance_119 ?_
                refine tp_l (y := z.2.2) ((hO k (Nat.le_refl k)).2.2.trans ez3) ?_
                refine xa_last hx hb hK hP hD hS 1 1 rfl rfl (by omega) (by omega) dX1_advance_120 (fun H locs hP hD hS => ?_)
                have hP : va_P (dC, dI) vwCl [(y, .inr (1, [.int (nI 0), .int (nI nD), .int (nI nR), .ref b1, .ref b2, .long t, .ref b3, .ref b4, .ref b5, .int (nI zs.length), .ref b6, .ref b7, .int (nI el), .ref b8, .ref b9, .ref b10])), (b1, .inl (cJ, 512, .inr (.inl (vp_updL vsc z.1 z.2.2)))), (b2, .inl (cZ, 512, .inl (fun j => bI (ub acc z.1 true j)))), (b3, .inl (cI, 8192, .inl (fun j => nI (oc j)))), (b4, .inl (cJ, 8192, .inr (.inl tc))), (b5, .inl (cJ, 8192, .inr (.inl vc))), (b6, .inl (cJ, 16, .inr (.inl nv))), (b7, .inl (cJ, 16, .inr (.inl dl))), (b8, .inl (cJ, 8208, .inr (.inl rt))), (b9, .inl (cJ, 8208, .inr (.inl rv))), (b10, .inl (cZ, 8208, .inl (fun j => bI (mk j))))] H := hP
                have hD : va_D A [(y, .inr (1, [.int (nI 0), .int (nI nD), .int (nI nR), .ref b1, .ref b2, .long t, .ref b3, .ref b4, .ref b5, .int (nI zs.length), .ref b6, .ref b7, .int (nI el), .ref b8, .ref b9, .ref b10])), (b1, .inl (cJ, 512, .inr (.inl (vp_updL vsc z.1 z.2.2)))), (b2, .inl (cZ, 512, .inl (fun j => bI (ub acc z.1 true j)))), (b3, .inl (cI, 8192, .inl (fun j => nI (oc j)))), (b4, .inl (cJ, 8192, .inr (.inl tc))), (b5, .inl (cJ, 8192, .inr (.inl vc))), (b6, .inl (cJ, 16, .inr (.inl nv))), (b7, .inl (cJ, 16, .inr (.inl dl))), (b8, .inl (cJ, 8208, .inr (.inl rt))), (b9, .inl (cJ, 8208, .inr (.inl rv))), (b10, .inl (cZ, 8208, .inl (fun j => bI (mk j))))] := hD
                refine lv_goto (tgt := 166) hx hb dX1_advance_121 (by decide) ?_
                refine lv_iinc (v := nI (k + 1)) (lv' := [(4, .int (nI (k + 1))), (0, .ref y), (1, .long t), (3, .int (nI F.length))]) hx hb dX1_advance_166 hl (k := 3) rfl (nI_1 k) (by decide) rfl (fun ls hl => ?_)
                refine lv_goto (tgt := 68) hx hb dX1_advance_169 (by decide) ?_
                exact ih (k + 1) F oc tc vc (vp_updL vsc z.1 z.2.2) (ub acc z.1 true) H locs ls htl (by omega) (by omega) hF (fun j hj => hO j (by omega)) (by rw [← hE, wla_skip c_A]) (by rw [← hvs]; show _ = wvs t tl (if t < z.2.1 then _ else _); rw [if_neg c_A]) (by rw [← hac]; show _ = was t tl (if t < z.2.1 then _ else _); rw [if_neg c_A]) hP hD hS (lv_sub hl [1, 2, 3, 0] rfl)
        have hloop1 : ∀ (n k : Nat) (H : Heap) (locs : List Loc) (ls : Array Slot), k + n = nD → va_P (dC, dI) vwCl [(y, .inr (1, [.int (nI 0), .int (nI nD), .int (nI nR), .ref b1, .ref b2, .long t, .ref b3, .ref b4, .ref b5, .int (nI zs.length), .ref b6, .ref b7, .int (nI el), .ref b8, .ref b9, .ref b10])), (b1, .inl (cJ, 512, .inr (.inl vs))), (b2, .inl (cZ, 512, .inl (fun j => bI ((wfl ac k) j)))), (b3, .inl (cI, 8192, .inl (fun j => nI (o j)))), (b4, .inl (cJ, 8192, .inr (.inl mt))), (b5, .inl (cJ, 8192, .inr (.inl mw))), (b6, .inl (cJ, 16, .inr (.inl nv))), (b7, .inl (cJ, 16, .inr (.inl dl))), (b8, .inl (cJ, 8208, .inr (.inl rt))), (b9, .inl (cJ, 8208, .inr (.inl rv))), (b10, .inl (cZ, 8208, .inl (fun j => bI (mk j))))] H → va_D A [(y, .inr (1, [.int (nI 0), .int (nI nD), .int (nI nR), .ref b1, .ref b2, .long t, .ref b3, .ref b4, .ref b5, .int (nI zs.length), .ref b6, .ref b7, .int (nI el), .ref b8, .ref b9, .ref b10])), (b1, .inl (cJ, 512, .inr (.inl vs))), (b2, .inl (cZ, 512, .inl (fun j => bI ((wfl ac k) j)))), (b3, .inl (cI, 8192, .inl (fun j => nI (o j)))), (b4, .inl (cJ, 8192, .inr (.inl mt))), (b5, .inl (cJ, 8192, .inr (.inl mw))), (b6, .inl (cJ, 16, .inr (.inl nv))), (b7, .inl (cJ, 16, .inr (.inl dl))), (b8, .inl (cJ, 8208, .inr (.inl rt))), (b9, .inl (cJ, 8208, .inr (.inl rv))), (b10, .inl (cZ, 8208, .inl (fun j => bI (mk j))))] → va_S A s.heap H locs → lv_has ls 6 [(0, .ref y), (1, .long t), (3, .int (nI k))] → W p l e (headSpec wsX1_advance ({ frames := 0, cells := 0, slots := 0, locals := 0 })).room s m (([.ref y, .long t] : List Value).toArray) below meth c H locs 0 0 (MQ below (va_Qi (fun (v : Int32) (_ : Unit) => v = nI (wcn (was t zs (wfl ac nD)) nD 0)) (fun _ t9 => ∃ (o9 : Nat → Nat) (t8 w9 : Nat → Int64), wz (wla t zs) o9 t8 w9 ∧ va_P (dC, dI) vwCl (wm y b1 b2 b3 b4 b5 b6 b7 b8 b9 b10 cI cJ cZ 0 nD nR (wvs t zs vs) (was t zs (wfl ac nD)) t o9 t8 w9 ((wla t zs).length) nv dl el rt rv mk) t9.heap ∧ va_K (dC, dI) vwCl [(cI, .int), (cJ, .long), (cZ, .boolean)] t9 ∧ va_D A (wm y b1 b2 b3 b4 b5 b6 b7 b8 b9 b10 cI cJ cZ 0 nD nR (wvs t zs vs) (was t zs (wfl ac nD)) t o9 t8 w9 ((wla t zs).length) nv dl el rt rv mk)) A) (([.ref y, .long t] : List Value).toArray) s 0 0 A) (F0 m 42 ls []) := by
          intro n
          induction n with
          | zero =>
            intro k H locs ls hk hP hD hS hl
            obtain rfl : nD = k := by omega
            refine lv_iload_n hx hb dX1_advance_42 rfl (lv_at hl 2 rfl) ?_
            refine lv_aload_n hx hb dX1_advance_43 rfl (lv_at hl 0 rfl) ?_
            refine va_get (D := (dC, dI)) (ci := 1) (v := .int (nI nD)) (C := RX1) (T := TX1) (N := 16) hx hb hall inX1 hown hK hP 0 rfl rfl 1 (by decide) (hall _ kw_324) (fun _ h9 => h9) rfl dX1_advance_44 ?_
            refine xc_ge (tgt := 63) hx hb (by omega) (by omega) dX1_advance_47 (by decide) (fun c_10 => ?_) (fun c_10 => ?_)
            · refine lv_iconst (v := 0) hx hb dX1_advance_63 (by decide) ?_
              refine tp_i (y := nI 0) nI_0.symm ?_
              refine lv_istore_n (lv' := [(3, .int (nI 0)), (0, .ref y), (1, .long t)]) hx hb dX1_advance_64 rfl hl (by decide) rfl (fun ls hl => ?_)
              refine lv_iconst (v := 0) hx hb dX1_advance_65 (by decide) ?_
              refine tp_i (y := nI 0) nI_0.symm ?_
              refine lv_istore (lv' := [(4, .int (nI 0)), (3, .int (nI 0)), (0, .ref y), (1, .long t)]) hx hb dX1_advance_66 hl (by decide) rfl (fun ls hl => ?_)
              exact hloop2 zs 0 [] o mt mw vs (wfl ac nD) H locs ls rfl (by omega) (Nat.zero_le _) (fun j e he => by cases he) (fun j _ => ⟨rfl, rfl, rfl⟩) rfl rfl rfl hP hD hS (lv_sub hl [2, 3, 1, 0] rfl)
            · exact absurd c_10 (by omega)
          | succ n ih =>
            intro k H locs ls hk hP hD hS hl
            refine lv_iload_n hx hb dX1_advance_42 rfl (lv_at hl 2 rfl) ?_
            refine lv_aload_n hx hb dX1_advance_43 rfl (lv_at hl 0 rfl) ?_
            refine va_get (D := (dC, dI)) (ci := 1) (v := .int (nI nD)) (C := RX1) (T := TX1) (N := 16) hx hb hall inX1 hown hK hP 0 rfl rfl 1 (by decide) (hall _ kw_324) (fun _ h9 => h9) rfl dX1_advance_44 ?_
            refine xc_ge (tgt := 63) hx hb (by omega) (by omega) dX1_advance_47 (by decide) (fun c_11 => ?_) (fun c_11 => ?_)
            · exact absurd c_11 (by omega)
            · refine lv_aload_n hx hb dX1_advance_50 rfl (lv_at hl 0 rfl) ?_
              refine va_get (D := (dC, dI)) (ci := 1) (v := .ref b2) (C := RX1) (T := TX1) (N := 16) hx hb hall inX1 hown hK hP 0 rfl rfl 4 (by decide) (hall _ kw_327) (fun _ h9 => h9) rfl dX1_advance_51 ?_
              refine lv_iload_n hx hb dX1_advance_54 rfl (lv_at hl 2 rfl) ?_
              refine lv_iconst (v := 0) hx hb dX1_advance_55 (by decide) ?_
              refine tp_i (y := bI false) bI_f ?_
              refine xa_zast hx hb hK hP hD hS 2 2 rfl rfl (by omega) (by omega) dX1_advance_56 (fun H locs hP hD hS => ?_)
              have hP : va_P (dC, dI) vwCl [(y, .inr (1, [.int (nI 0), .int (nI nD), .int (nI nR), .ref b1, .ref b2, .long t, .ref b3, .ref b4, .ref b5, .int (nI zs.length), .ref b6, .ref b7, .int (nI el), .ref b8, .ref b9, .ref b10])), (b1, .inl (cJ, 512, .inr (.inl vs))), (b2, .inl (cZ, 512, .inl (fun j => bI (ub (wfl ac k) k false j)))), (b3, .inl (cI, 8192, .inl (fun j => nI (o j)))), (b4, .inl (cJ, 8192, .inr (.inl mt))), (b5, .inl (cJ, 8192, .inr (.inl mw))), (b6, .inl (cJ, 16, .inr (.inl nv))), (b7, .inl (cJ, 16, .inr (.inl dl))), (b8, .inl (cJ, 8208, .inr (.inl rt))), (b9, .inl (cJ, 8208, .inr (.inl rv))), (b10, .inl (cZ, 8208, .inl (fun j => bI (mk j))))] H := hP
              have hD : va_D A [(y, .inr (1, [.int (nI 0), .int (nI nD), .int (nI nR), .ref b1, .ref b2, .long t, .ref b3, .ref b4, .ref b5, .int (nI zs.length), .ref b6, .ref b7, .int (nI el), .ref b8, .ref b9, .ref b10])), (b1, .inl (cJ, 512, .inr (.inl vs))), (b2, .inl (cZ, 512, .inl (fun j => bI (ub (wfl ac k) k false j)))), (b3, .inl (cI, 8192, .inl (fun j => nI (o j)))), (b4, .inl (cJ, 8192, .inr (.inl mt))), (b5, .inl (cJ, 8192, .inr (.inl mw))), (b6, .inl (cJ, 16, .inr (.inl nv))), (b7, .inl (cJ, 16, .inr (.inl dl))), (b8, .inl (cJ, 8208, .inr (.inl rt))), (b9, .inl (cJ, 8208, .inr (.inl rv))), (b10, .inl (cZ, 8208, .inl (fun j => bI (mk j))))] := hD
              refine lv_iinc (v := nI (k + 1)) (lv' := [(3, .int (nI (k + 1))), (0, .ref y), (1, .long t)]) hx hb dX1_advance_57 hl (k := 2) rfl (nI_1 k) (by decide) rfl (fun ls hl => ?_)
              refine lv_goto (tgt := 42) hx hb dX1_advance_60 (by decide) ?_
              exact ih (k + 1) H locs ls (by omega) (by rw [← wfl_s]; exact hP) (by rw [← wfl_s]; exact hD) hS (lv_sub hl [1, 2, 0] rfl)
        exact hloop1 nD 0 H locs ls (by omega) (by rw [wfl_0]; exact hP) (by rw [wfl_0]; exact hD) hS (lv_sub hl [1, 2, 0] rfl)
      · exact absurd c_3 (by omega)
    · exact absurd (Int64.not_le.mp c_2) h2
end
section
/-! an assignment in the reference: its row of (time, value, marked) -/
theorem i32_le0 (i : Int32) : i ≤ 0 ↔ i < 1 := by
  rw [Int32.le_iff_toInt_le, Int32.lt_iff_toInt_lt, show (1 : Int32).toInt = 1 from by decide, Int32.toInt_zero]
  omega
section XA4
variable {p : Program} {l : Launch} {e : Env} {R : Room} {s : State} {m : MethodId} {args : Array Value} {below : List Frame} {meth : Method} {c : Code} {H : Heap} {locs : List Loc} {cells slots : Nat} {Q : State → Prop}
variable {cc : ByteArray} {pc : Nat} {ls : Array Slot} {rest : List Value} {D : va_G} {cl : List vw_C} {ws : va_W} {tys : List (ClassId × FieldType)} {A : Nat → Prop} {H0 : Heap} {a b : Nat}
theorem xa_newz (hx : p.tables.exec = Jvm.exec) (hb : c.code = cc) (harr : (Cond.arrayClass .boolean).before args s = true) (hK : va_K D cl tys s) (hP : va_P D cl ws H) (hD : va_D A ws) (hS : va_S A H0 H locs) (hA : ∀ q, H0.size ≤ q → A q)
    {N : Nat} (hN : N ≤ 65536) (hcells : cells + 1 ≤ R.cells) (hslots : slots + N ≤ R.slots) (hdg : decode cc pc = .ok (.newarray .boolean, 2))
    (kk : ∀ (q : Nat) (cA : ClassId) (H1 : Heap), va_K D cl (tys ++ [(cA, .boolean)]) s → va_P D cl (ws ++ [(q, .inl (cA, N, .inl (fun _ => 0)))]) H1 → va_D A (ws ++ [(q, .inl (cA, N, .inl (fun _ => 0)))]) → va_S A H0 H1 locs →
      W p l e R s m args below meth c H1 locs (cells + 1) (slots + N) Q (F0 m (pc + 2) ls (.ref q :: rest))) : W p l e R s m args below meth c H locs cells slots Q (F0 m pc ls (.int (nI N) :: rest)) :=
  va_newa (atype := .boolean) (ty := .boolean) (N' := N) (a0 := (N, .inl (fun _ => 0))) hx hb harr rfl hK hP hD hS hA (fun _ => rfl) (nI_pos (by omega)) (nI_clamp (by omega)) (by show N * 1 ≤ 536870912; omega) hcells hslots hdg kk
theorem xk_sameZ {U : State} {c1 c2 : ClassId} {t1 t2 : Nat} (hK : va_K D cl tys U) (h1 : tys[t1]? = some (c1, .boolean)) (h2 : tys[t2]? = some (c2, .boolean)) : c1 = c2 := by
  have e1 : U.vm.findClass ("[" ++ (FieldType.boolean).toString) = some c1 := (hK.2 t1 _ h1).2
  have e2 : U.vm.findClass ("[" ++ (FieldType.boolean).toString) = some c2 := (hK.2 t2 _ h2).2
  exact Option.some.inj (e1.symm.trans e2)
end XA4
abbrev XT : Type := Int64 × Int64 × Bool
def wx (X : List XT) (rt rv : Nat → Int64) (mk : Nat → Bool) : Prop := ∀ (j : Nat) (e : XT), X[j]? = some e → rt j = e.1 ∧ rv j = e.2.1 ∧ mk j = e.2.2
theorem ub_s {g : Nat → Bool} {k : Nat} {v : Bool} : ub g k v k = v := if_pos rfl
theorem ub_n {g : Nat → Bool} {k j : Nat} {v : Bool} (h : j ≠ k) : ub g k v j = g j := if_neg h
theorem wx_push {X : List XT} {rt rv : Nat → Int64} {mk : Nat → Bool} (x : XT) (h : wx X rt rv mk) : wx (X ++ [x]) (vp_updL rt X.length x.1) (vp_updL rv X.length x.2.1) (ub mk X.length x.2.2) := by
  intro j e he
  by_cases q : j = X.length
  · subst q
    rw [List.getElem?_append_right (Nat.le_refl _), Nat.sub_self] at he
    cases he
    exact ⟨pk_uLs, pk_uLs, ub_s⟩
  · have hj : j < X.length := by
      have h1 := (List.getElem?_eq_some_iff.mp he).1
      rw [wz_len] at h1
      omega
    rw [List.getElem?_append_left hj] at he
    obtain ⟨h1, h2, h3⟩ := h j e he
    exact ⟨(pk_uLn q).trans h1, (pk_uLn q).trans h2, (ub_n q).trans h3⟩
def wro (d : Nat) (fs lm : Int64) (mo : Int32) : List ZT → List XT
  | [] => []
  | z :: tl => if z.1 = d ∧ z.2.1 < fs then (z.2.1, z.2.2, decide (mo = 1 ∨ z.2.1 < fs - lm)) :: wro d fs lm mo tl else wro d fs lm mo tl
theorem wro_len (d : Nat) (fs lm : Int64) (mo : Int32) : ∀ zs : List ZT, (wro d fs lm mo zs).length ≤ wc d zs
  | [] => Nat.le_refl 0
  | z :: tl => by
    have h := wro_len d fs lm mo tl
    show (if z.1 = d ∧ z.2.1 < fs then (z.2.1, z.2.2, decide (mo = 1 ∨ z.2.1 < fs - lm)) :: wro d fs lm mo tl else wro d fs lm mo tl).length ≤ (if z.1 = d then 1 else 0) + wc d tl
    by_cases q : z.1 = d ∧ z.2.1 < fs
    · rw [if_pos q, if_pos q.1, List.length_cons]; omega
    · rw [if_neg q]; omega
def wel (now : Int64) (dl nv : Nat → Int64) : Nat → Nat → List XT
  | 0, _ => []
  | n + 1, k => (now + dl k, nv k, true) :: wel now dl nv n (k + 1)
theorem wel_len (now : Int64) (dl nv : Nat → Int64) : ∀ n k : Nat, (wel now dl nv n k).length = n
  | 0, _ => rfl
  | n + 1, k => congrArg (· + 1) (wel_len now dl nv n (k + 1))
theorem wel_mark (now : Int64) (dl nv : Nat → Int64) : ∀ (n k j : Nat) (e : XT), (wel now dl nv n k)[j]? = some e → e.2.2 = true
  | 0, _, j, e, h => by cases h
  | n + 1, k, 0, e, h => by cases h; rfl
  | n + 1, k, j + 1, e, h => wel_mark now dl nv n (k + 1) j e h
/-- marks go from the last to the first -/
def wmr : List XT → List XT
  | [] => []
  | e :: tl => (e.1, e.2.1, e.2.2 || (match (wmr tl)[0]? with | none => false | some f => f.2.2 && decide (f.2.1 = e.2.1))) :: wmr tl
theorem wmr_len : ∀ X : List XT, (wmr X).length = X.length
  | [] => rfl
  | e :: tl => congrArg (· + 1) (wmr_len tl)
theorem wmr_get : ∀ (X : List XT) (j : Nat) (e : XT), X[j]? = some e → (wmr X)[j]? = some (e.1, e.2.1, e.2.2 || (match (wmr X)[j + 1]? with | none => false | some f => f.2.2 && decide (f.2.1 = e.2.1)))
  | [], j, e, h => by cases h
  | x :: tl, 0, e, h => by cases h; rfl
  | x :: tl, j + 1, e, h => wmr_get tl j e h
theorem wmr_mark {X : List XT} {j : Nat} {e : XT} (h : X[j]? = some e) (hm : e.2.2 = true) : (wmr X)[j]? = some e := by
  rw [wmr_get X j e h, hm]
  obtain ⟨a, b, c⟩ := e
  cases hm
  rfl
/-- how many of the first n are marked -/
def wst : Nat → List XT → Nat
  | 0, _ => 0
  | _ + 1, [] => 0
  | n + 1, e :: tl => (if e.2.2 = true then 1 else 0) + wst n tl
theorem wst_le : ∀ (n : Nat) (M : List XT), wst n M ≤ n
  | 0, _ => Nat.le_refl 0
  | _ + 1, [] => Nat.zero_le _
  | n + 1, e :: tl => by
    have h := wst_le n tl
    show (if e.2.2 = true then 1 else 0) + wst n tl ≤ n + 1
    split <;> omega
/-- the marked ones as a driver's transactions -/
def wml (d : Nat) : List XT → List ZT
  | [] => []
  | e :: tl => if e.2.2 = true then (d, e.1, e.2.1) :: wml d tl else wml d tl
theorem wml_len (d : Nat) : ∀ M : List XT, (wml d M).length = wst M.length M
  | [] => rfl
  | e :: tl => by
    have h := wml_len d tl
    show (if e.2.2 = true then (d, e.1, e.2.1) :: wml d tl else wml d tl).length = (if e.2.2 = true then 1 else 0) + wst tl.length tl
    by_cases q : e.2.2 = true
    · rw [if_pos q, if_pos q, List.length_cons]; omega
    · rw [if_neg q, if_neg q]; omega
theorem wst_add : ∀ (n k : Nat) (M : List XT), wst (n + k) M = wst n M + wst k (M.drop n)
  | 0, k, M => by rw [Nat.zero_add, List.drop_zero]; exact (Nat.zero_add _).symm
  | n + 1, k, [] => by
    have h : wst (n + 1 + k) [] = 0 := by rw [show n + 1 + k = (n + k) + 1 by omega]; rfl
    rw [h]
    cases k <;> rfl
  | n + 1, k, e :: tl => by
    rw [show n + 1 + k = (n + k) + 1 by omega]
    show (if e.2.2 = true then 1 else 0) + wst (n + k) tl = ((if e.2.2 = true then 1 else 0) + wst n tl) + wst k (tl.drop n)
    rw [wst_add n k tl]
    omega
theorem wst_all : ∀ (M : List XT), (∀ (j : Nat) (e : XT), M[j]? = some e → e.2.2 = true) → wst M.length M = M.length
  | [], _ => rfl
  | e :: tl, h => by
    have q := wst_all tl (fun j f hf => h (j + 1) f hf)
    show (if e.2.2 = true then 1 else 0) + wst tl.length tl = tl.length + 1
    rw [if_pos (h 0 e rfl)]
    omega
theorem wot_wc (d : Nat) : ∀ zs : List ZT, (wot d zs).length + wc d zs = zs.length
  | [] => rfl
  | z :: tl => by
    have h := wot_wc d tl
    show (wot d (z :: tl)).length + ((if z.1 = d then 1 else 0) + wc d tl) = tl.length + 1
    by_cases q : z.1 = d
    · rw [wot_skip q, if_pos q]; omega
    · rw [wot_take q, if_neg q, List.length_cons]; omega
theorem wx_drop {X tl : List XT} {k : Nat} {e : XT} (h : X.drop k = e :: tl) : k < X.length ∧ X[k]? = some e ∧ X.drop (k + 1) = tl := by
  have h1 : k < X.length := by
    rcases Nat.lt_or_ge k X.length with q | q
    · exact q
    · rw [List.drop_eq_nil_of_le q] at h; cases h
  rw [List.drop_eq_getElem_cons h1] at h
  injection h with h2 h3
  exact ⟨h1, by rw [List.getElem?_eq_getElem h1, h2], h3⟩
theorem wmk_ml (d : Nat) {M : List XT} {rt rv : Nat → Int64} {mk : Nat → Bool} (h : wx M rt rv mk) : ∀ (S : List XT) (k : Nat), M.drop k = S → wmk d rt rv mk S.length k = wml d S
  | [], _, _ => rfl
  | e :: tl, k, hS => by
    obtain ⟨h1, h2, h3⟩ := wx_drop hS
    obtain ⟨q1, q2, q3⟩ := h k e h2
    have ih := wmk_ml d h tl (k + 1) h3
    show (if mk k = true then (d, rt k, rv k) :: wmk d rt rv mk tl.length (k + 1) else wmk d rt rv mk tl.length (k + 1)) = (if e.2.2 = true then (d, e.1, e.2.1) :: wml d tl else wml d tl)
    rw [ih, q1, q2, q3]
theorem wcn_st {M : List XT} {rt rv : Nat → Int64} {mk : Nat → Bool} (h : wx M rt rv mk) : ∀ (n k : Nat), k + n ≤ M.length → wcn mk n k = wst n (M.drop k) := by
  intro n
  induction n with
  | zero => intro k _; rfl
  | succ n ih =>
    intro k hk
    rw [List.drop_eq_getElem_cons (show k < M.length by omega)]
    have q := (h k M[k] (List.getElem?_eq_getElem (by omega))).2.2
    show (if mk k = true then 1 else 0) + wcn mk n (k + 1) = (if M[k].2.2 = true then 1 else 0) + wst n (M.drop (k + 1))
    rw [ih (k + 1) (by omega), q]
/-- what an assignment makes of the marks: all of them, the first n by their own marks yet -/
def wbm (E : List XT) (n : Nat) (mk : Nat → Bool) : Prop := (∀ (j : Nat) (e : XT), j < n → E[j]? = some e → mk j = e.2.2) ∧ ∀ (j : Nat) (f : XT), n ≤ j → (wmr E)[j]? = some f → mk j = f.2.2
theorem wbm_end {E : List XT} {rt rv : Nat → Int64} {mk0 mk : Nat → Bool} (h0 : wx E rt rv mk0) (h : wbm E 0 mk) : wx (wmr E) rt rv mk := by
  intro j f hf
  have hj : j < E.length := by
    have := (List.getElem?_eq_some_iff.mp hf).1
    rw [wmr_len] at this
    exact this
  have he := wmr_get E j E[j] (List.getElem?_eq_getElem hj)
  obtain ⟨q1, q2, -⟩ := h0 j E[j] (List.getElem?_eq_getElem hj)
  have h9 := h.2 j f (Nat.zero_le j) hf
  rw [hf] at he
  cases he
  exact ⟨q1, q2, h9⟩
theorem wbm_init {E : List XT} {rt rv : Nat → Int64} {mk : Nat → Bool} {n : Nat} (h0 : wx E rt rv mk) (hn : ∀ (j : Nat) (e : XT), n ≤ j → E[j]? = some e → e.2.2 = true) : wbm E n mk := by
  refine ⟨fun j e _ he => (h0 j e he).2.2, fun j f hj hf => ?_⟩
  have hl : j < E.length := by
    have := (List.getElem?_eq_some_iff.mp hf).1
    rw [wmr_len] at this
    exact this
  have he := List.getElem?_eq_getElem hl
  have hm := hn j _ hj he
  rw [wmr_mark he hm] at hf
  cases hf
  exact (h0 j _ he).2.2
theorem wbm_step {E : List XT} {rt rv : Nat → Int64} {mk0 mk : Nat → Bool} {n : Nat} (h0 : wx E rt rv mk0) (h : wbm E (n + 1) mk) (hn : n + 1 < E.length) {b : Bool} (hb : b = (mk n || (mk (n + 1) && decide (rv (n + 1) = rv n)))) : wbm E n (ub mk n b) := by
  have he := List.getElem?_eq_getElem (show n < E.length by omega)
  have hf : (wmr E)[n + 1]? = some ((wmr E)[n + 1]'(by rw [wmr_len]; exact hn)) := List.getElem?_eq_getElem (by rw [wmr_len]; exact hn)
  generalize (wmr E)[n + 1]'(by rw [wmr_len]; exact hn) = f at hf
  generalize E[n] = e at he
  have g1 := wmr_get E n e he
  rw [hf] at g1
  have hv1 : rv n = e.2.1 := (h0 n e he).2.1
  have hv2 : rv (n + 1) = f.2.1 := by
    have he2 := List.getElem?_eq_getElem hn
    have g2 := wmr_get E (n + 1) _ he2
    rw [hf] at g2
    cases g2
    exact (h0 (n + 1) _ he2).2.1
  have hm1 : mk n = e.2.2 := h.1 n e (by omega) he
  have hm2 : mk (n + 1) = f.2.2 := h.2 (n + 1) f (Nat.le_refl _) hf
  refine ⟨fun j x hj hx => ?_, fun j x hj hx => ?_⟩
  · rw [ub_n (by omega)]
    exact h.1 j x (by omega) hx
  · by_cases q : j = n
    · subst q
      rw [g1] at hx
      cases hx
      rw [ub_s, hb, hm1, hm2, hv1, hv2]
    · rw [ub_n q]
      exact h.2 j x (by omega) hx
end
