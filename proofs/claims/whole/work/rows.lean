section
-- ===== PART A: goes FIRST, ahead of the names: the tables' words, and 'selects' of the private methods out of them =====
/-- a private method of a class that the tables say can be made, by its rows of tables_1 -/
def lw_okq (q : MethodName × Nat) : Prop := (q.1.cls ≠ "java/lang/invoke/MethodHandle" ∧ q.1.cls ≠ "java/lang/invoke/VarHandle") ∧ Cond.instantiable q.1.cls q.2 ∈ tables_1 ∧ Cond.privateMethod q.1 ∈ tables_1 ∧ Cond.instanceMethod q.1 ∈ tables_1
theorem lw_p0 : lw_okq (⟨"WaveRows", "rowLength", "(I)I"⟩, 12) := ⟨⟨by decide +kernel, by decide +kernel⟩, List.mem_of_getElem? (i := 13) (by decide +kernel), List.mem_of_getElem? (i := 80) (by decide +kernel), List.mem_of_getElem? (i := 81) (by decide +kernel)⟩
theorem lw_p1 : lw_okq (⟨"java/lang/Throwable", "fillInStackTrace", "(I)Ljava/lang/Throwable;"⟩, 6) := ⟨⟨by decide +kernel, by decide +kernel⟩, List.mem_of_getElem? (i := 142) (by decide +kernel), List.mem_of_getElem? (i := 140) (by decide +kernel), List.mem_of_getElem? (i := 141) (by decide +kernel)⟩
theorem lw_p2 : lw_okq (⟨"WaveRows", "requireDriver", "(I)V"⟩, 12) := ⟨⟨by decide +kernel, by decide +kernel⟩, List.mem_of_getElem? (i := 13) (by decide +kernel), List.mem_of_getElem? (i := 196) (by decide +kernel), List.mem_of_getElem? (i := 197) (by decide +kernel)⟩
theorem lw_p3 : lw_okq (⟨"WaveRows", "isLimitGood", "(IJ)Z"⟩, 12) := ⟨⟨by decide +kernel, by decide +kernel⟩, List.mem_of_getElem? (i := 13) (by decide +kernel), List.mem_of_getElem? (i := 217) (by decide +kernel), List.mem_of_getElem? (i := 218) (by decide +kernel)⟩
theorem lw_p4 : lw_okq (⟨"WaveRows", "areDelaysGood", "()Z"⟩, 12) := ⟨⟨by decide +kernel, by decide +kernel⟩, List.mem_of_getElem? (i := 13) (by decide +kernel), List.mem_of_getElem? (i := 221) (by decide +kernel), List.mem_of_getElem? (i := 222) (by decide +kernel)⟩
theorem lw_p5 : lw_okq (⟨"WaveRows", "firstBehind", "(IIJ)I"⟩, 12) := ⟨⟨by decide +kernel, by decide +kernel⟩, List.mem_of_getElem? (i := 13) (by decide +kernel), List.mem_of_getElem? (i := 226) (by decide +kernel), List.mem_of_getElem? (i := 227) (by decide +kernel)⟩
theorem lw_p6 : lw_okq (⟨"WaveRows", "limitOf", "(IJ)J"⟩, 12) := ⟨⟨by decide +kernel, by decide +kernel⟩, List.mem_of_getElem? (i := 13) (by decide +kernel), List.mem_of_getElem? (i := 230) (by decide +kernel), List.mem_of_getElem? (i := 231) (by decide +kernel)⟩
theorem lw_p7 : lw_okq (⟨"WaveRows", "startOfSameValues", "(IIJ)I"⟩, 12) := ⟨⟨by decide +kernel, by decide +kernel⟩, List.mem_of_getElem? (i := 13) (by decide +kernel), List.mem_of_getElem? (i := 234) (by decide +kernel), List.mem_of_getElem? (i := 235) (by decide +kernel)⟩
theorem lw_p8 : lw_okq (⟨"WaveRows", "moveTransactions", "(III)V"⟩, 12) := ⟨⟨by decide +kernel, by decide +kernel⟩, List.mem_of_getElem? (i := 13) (by decide +kernel), List.mem_of_getElem? (i := 239) (by decide +kernel), List.mem_of_getElem? (i := 240) (by decide +kernel)⟩
theorem lw_p9 : lw_okq (⟨"WaveRows", "endRowAt", "(II)V"⟩, 12) := ⟨⟨by decide +kernel, by decide +kernel⟩, List.mem_of_getElem? (i := 13) (by decide +kernel), List.mem_of_getElem? (i := 246) (by decide +kernel), List.mem_of_getElem? (i := 247) (by decide +kernel)⟩
theorem lw_p10 : lw_okq (⟨"WaveRows", "makePlaces", "(I)V"⟩, 12) := ⟨⟨by decide +kernel, by decide +kernel⟩, List.mem_of_getElem? (i := 13) (by decide +kernel), List.mem_of_getElem? (i := 250) (by decide +kernel), List.mem_of_getElem? (i := 251) (by decide +kernel)⟩
theorem lw_p11 : lw_okq (⟨"WaveRows", "writeElements", "(I)V"⟩, 12) := ⟨⟨by decide +kernel, by decide +kernel⟩, List.mem_of_getElem? (i := 13) (by decide +kernel), List.mem_of_getElem? (i := 269) (by decide +kernel), List.mem_of_getElem? (i := 270) (by decide +kernel)⟩
theorem lw_p12 : lw_okq (⟨"WaveRowsModel", "none", "(I)Z"⟩, 16) := ⟨⟨by decide +kernel, by decide +kernel⟩, List.mem_of_getElem? (i := 318) (by decide +kernel), List.mem_of_getElem? (i := 391) (by decide +kernel), List.mem_of_getElem? (i := 392) (by decide +kernel)⟩
theorem lw_p13 : lw_okq (⟨"WaveRowsModel", "rises", "()Z"⟩, 16) := ⟨⟨by decide +kernel, by decide +kernel⟩, List.mem_of_getElem? (i := 318) (by decide +kernel), List.mem_of_getElem? (i := 395) (by decide +kernel), List.mem_of_getElem? (i := 396) (by decide +kernel)⟩
theorem lw_p14 : lw_okq (⟨"WaveRowsModel", "replace", "(II)V"⟩, 16) := ⟨⟨by decide +kernel, by decide +kernel⟩, List.mem_of_getElem? (i := 318) (by decide +kernel), List.mem_of_getElem? (i := 399) (by decide +kernel), List.mem_of_getElem? (i := 400) (by decide +kernel)⟩
theorem lw_p15 : lw_okq (⟨"WaveRowsModel", "find", "(II)I"⟩, 16) := ⟨⟨by decide +kernel, by decide +kernel⟩, List.mem_of_getElem? (i := 318) (by decide +kernel), List.mem_of_getElem? (i := 436) (by decide +kernel), List.mem_of_getElem? (i := 437) (by decide +kernel)⟩
def lw_privs_1 : List (MethodName × Nat) := [(⟨"WaveRows", "rowLength", "(I)I"⟩, 12), (⟨"java/lang/Throwable", "fillInStackTrace", "(I)Ljava/lang/Throwable;"⟩, 6), (⟨"WaveRows", "requireDriver", "(I)V"⟩, 12), (⟨"WaveRows", "isLimitGood", "(IJ)Z"⟩, 12), (⟨"WaveRows", "areDelaysGood", "()Z"⟩, 12), (⟨"WaveRows", "firstBehind", "(IIJ)I"⟩, 12), (⟨"WaveRows", "limitOf", "(IJ)J"⟩, 12), (⟨"WaveRows", "startOfSameValues", "(IIJ)I"⟩, 12), (⟨"WaveRows", "moveTransactions", "(III)V"⟩, 12), (⟨"WaveRows", "endRowAt", "(II)V"⟩, 12), (⟨"WaveRows", "makePlaces", "(I)V"⟩, 12), (⟨"WaveRows", "writeElements", "(I)V"⟩, 12), (⟨"WaveRowsModel", "none", "(I)Z"⟩, 16), (⟨"WaveRowsModel", "rises", "()Z"⟩, 16), (⟨"WaveRowsModel", "replace", "(II)V"⟩, 16), (⟨"WaveRowsModel", "find", "(II)I"⟩, 16)]
theorem lw_r1 : ∀ q ∈ lw_privs_1, lw_okq q := List.forall_mem_cons.mpr ⟨lw_p0, List.forall_mem_cons.mpr ⟨lw_p1, List.forall_mem_cons.mpr ⟨lw_p2, List.forall_mem_cons.mpr ⟨lw_p3, List.forall_mem_cons.mpr ⟨lw_p4, List.forall_mem_cons.mpr ⟨lw_p5, List.forall_mem_cons.mpr ⟨lw_p6, List.forall_mem_cons.mpr ⟨lw_p7, List.forall_mem_cons.mpr ⟨lw_p8, List.forall_mem_cons.mpr ⟨lw_p9, List.forall_mem_cons.mpr ⟨lw_p10, List.forall_mem_cons.mpr ⟨lw_p11, List.forall_mem_cons.mpr ⟨lw_p12, List.forall_mem_cons.mpr ⟨lw_p13, List.forall_mem_cons.mpr ⟨lw_p14, List.forall_mem_cons.mpr ⟨lw_p15, fun _ h => absurd h List.not_mem_nil⟩⟩⟩⟩⟩⟩⟩⟩⟩⟩⟩⟩⟩⟩⟩⟩
def lw_privs : List (MethodName × Nat) := lw_privs_1
def lw_tbl : List Cond := k2_sels lw_privs ++ tables_1
theorem lw_privs_ok : ∀ q ∈ lw_privs, lw_okq q := lw_r1
/-- all words of the tables that stay: each method's words are its own code and these -/
def allw : List Cond := lw_tbl.filter goodWord
theorem allw_of {w : Cond} (i : Nat) (h : lw_tbl[i]? = some w) (hg : goodWord w = true) : w ∈ allw := List.mem_filter.mpr ⟨List.mem_of_getElem? h, hg⟩
theorem allw_good : ∀ w ∈ allw, (w.onTables && w.keeps) = true ∨ ∃ ty, w = .arrayClass ty := fun _ h => good_of_word (List.mem_filter.mp h).2
theorem gAll {y : MethodName} {bs : ByteArray} {n : Nat} {rt : Option FieldType} (h : Cond.code y bs n rt ∈ allw) : GoodIn allw (Cond.code y bs n rt :: allw) := fun w hw => (List.mem_cons.mp hw).elim (fun e => e ▸ ⟨h, allw_good _ h⟩) (fun e => ⟨e, allw_good w e⟩)
theorem gV {own C : String} {idx : Nat} {y : MethodName} {bs : ByteArray} {n : Nat} {rt : Option FieldType} (h1 : Cond.methodLink own idx y ∈ allw) (h2 : Cond.instanceMethod y ∈ allw) (h3 : Cond.selects C y y ∈ allw) (h4 : Cond.initialized C ∈ allw) (h5 : Cond.code y bs n rt ∈ allw) : GoodIn allw (wsV own idx C y (Cond.code y bs n rt :: allw)) := by
  intro w hw
  rcases List.mem_append.mp hw with h | h
  · simp only [List.mem_cons, List.not_mem_nil, or_false] at h
    rcases h with rfl | rfl | rfl | rfl
    · exact ⟨h1, allw_good _ h1⟩
    · exact ⟨h2, allw_good _ h2⟩
    · exact ⟨h3, allw_good _ h3⟩
    · exact ⟨h4, allw_good _ h4⟩
  · exact gAll h5 w h
theorem gS {own : String} {idx : Nat} {y : MethodName} {bs : ByteArray} {n : Nat} {rt : Option FieldType} (h1 : Cond.methodLink own idx y ∈ allw) (h2 : Cond.static y ∈ allw) (h3 : Cond.initialized y.cls ∈ allw) (h5 : Cond.code y bs n rt ∈ allw) : GoodIn allw (va_wsS own idx y (Cond.code y bs n rt :: allw)) := by
  intro w hw
  rcases List.mem_append.mp hw with h | h
  · simp only [List.mem_cons, List.not_mem_nil, or_false] at h
    rcases h with rfl | rfl | rfl
    · exact ⟨h1, allw_good _ h1⟩
    · exact ⟨h2, allw_good _ h2⟩
    · exact ⟨h3, allw_good _ h3⟩
  · exact gAll h5 w h
def RX0 : String := "WaveRows"
def TX0 : u_T := fun k => match k with
  | 0 => ("WaveRows", "drivers", "I", true)
  | 1 => ("WaveRows", "room", "I", true)
  | 2 => ("WaveRows", "driverValues", "[J", true)
  | 3 => ("WaveRows", "rowStarts", "[I", true)
  | 4 => ("WaveRows", "times", "[J", false)
  | 5 => ("WaveRows", "values", "[J", false)
  | 6 => ("WaveRows", "elementValues", "[J", true)
  | 7 => ("WaveRows", "elementDelays", "[J", true)
  | 8 => ("WaveRows", "elementCount", "I", false)
  | 9 => ("WaveRows", "activeDrivers", "[I", true)
  | 10 => ("WaveRows", "activeCount", "I", false)
  | _ => ("WaveRows", "timeNow", "J", false)
def tyX0 : Nat → FieldType := fun k => match k with
  | 0 => .int
  | 1 => .int
  | 2 => .array .long
  | 3 => .array .int
  | 4 => .array .long
  | 5 => .array .long
  | 6 => .array .long
  | 7 => .array .long
  | 8 => .int
  | 9 => .array .int
  | 10 => .int
  | _ => .long
theorem nmX0 : ∀ a, a < 12 → ∀ b, b < 12 → a ≠ b → (TX0 a).2.1 ≠ (TX0 b).2.1 := by decide +kernel
theorem tyX0_ok : ∀ k, k < 12 → parseFieldDescriptor (TX0 k).2.2.1 = some (tyX0 k) := by decide +kernel
set_option maxRecDepth 20000 in
theorem inX0_0 : ∀ w ∈ u_ws RX0 TX0 12, w ∈ lw_tbl := by decide +kernel
theorem inX0_g : ∀ w ∈ u_ws RX0 TX0 12, goodWord w = true := by decide +kernel
theorem inX0 : ∀ w ∈ u_ws RX0 TX0 12, w ∈ allw := fun w h => List.mem_filter.mpr ⟨inX0_0 w h, inX0_g w h⟩
def RX1 : String := "WaveRowsModel"
def TX1 : u_T := fun k => match k with
  | 0 => ("WaveRowsModel", "thrown", "I", false)
  | 1 => ("WaveRowsModel", "drivers", "I", true)
  | 2 => ("WaveRowsModel", "room", "I", true)
  | 3 => ("WaveRowsModel", "values", "[J", true)
  | 4 => ("WaveRowsModel", "active", "[Z", true)
  | 5 => ("WaveRowsModel", "now", "J", false)
  | 6 => ("WaveRowsModel", "owners", "[I", true)
  | 7 => ("WaveRowsModel", "times", "[J", true)
  | 8 => ("WaveRowsModel", "what", "[J", true)
  | 9 => ("WaveRowsModel", "size", "I", false)
  | 10 => ("WaveRowsModel", "newValues", "[J", true)
  | 11 => ("WaveRowsModel", "delays", "[J", true)
  | 12 => ("WaveRowsModel", "elements", "I", false)
  | 13 => ("WaveRowsModel", "rowTimes", "[J", true)
  | 14 => ("WaveRowsModel", "rowValues", "[J", true)
  | _ => ("WaveRowsModel", "marked", "[Z", true)
def tyX1 : Nat → FieldType := fun k => match k with
  | 0 => .int
  | 1 => .int
  | 2 => .int
  | 3 => .array .long
  | 4 => .array .boolean
  | 5 => .long
  | 6 => .array .int
  | 7 => .array .long
  | 8 => .array .long
  | 9 => .int
  | 10 => .array .long
  | 11 => .array .long
  | 12 => .int
  | 13 => .array .long
  | 14 => .array .long
  | _ => .array .boolean
theorem nmX1 : ∀ a, a < 16 → ∀ b, b < 16 → a ≠ b → (TX1 a).2.1 ≠ (TX1 b).2.1 := by decide +kernel
theorem tyX1_ok : ∀ k, k < 16 → parseFieldDescriptor (TX1 k).2.2.1 = some (tyX1 k) := by decide +kernel
set_option maxRecDepth 20000 in
theorem inX1_0 : ∀ w ∈ u_ws RX1 TX1 16, w ∈ lw_tbl := by decide +kernel
theorem inX1_g : ∀ w ∈ u_ws RX1 TX1 16, goodWord w = true := by decide +kernel
theorem inX1 : ∀ w ∈ u_ws RX1 TX1 16, w ∈ allw := fun w h => List.mem_filter.mpr ⟨inX1_0 w h, inX1_g w h⟩
def RL : String := "WaveRowsLaw"
def RJ7 : String := "java/util/Arrays"
abbrev vwCl : List vw_C := [(RX0, TX0, 12), (RX1, TX1, 16)]
theorem kp_0 : Cond.selects "WaveRows" ⟨"WaveRows", "rowLength", "(I)I"⟩ ⟨"WaveRows", "rowLength", "(I)I"⟩ ∈ allw := allw_of 0 (by decide +kernel) (by decide +kernel)
theorem kp_1 : Cond.selects "java/lang/Throwable" ⟨"java/lang/Throwable", "fillInStackTrace", "(I)Ljava/lang/Throwable;"⟩ ⟨"java/lang/Throwable", "fillInStackTrace", "(I)Ljava/lang/Throwable;"⟩ ∈ allw := allw_of 1 (by decide +kernel) (by decide +kernel)
theorem kp_2 : Cond.selects "WaveRows" ⟨"WaveRows", "requireDriver", "(I)V"⟩ ⟨"WaveRows", "requireDriver", "(I)V"⟩ ∈ allw := allw_of 2 (by decide +kernel) (by decide +kernel)
theorem kp_3 : Cond.selects "WaveRows" ⟨"WaveRows", "isLimitGood", "(IJ)Z"⟩ ⟨"WaveRows", "isLimitGood", "(IJ)Z"⟩ ∈ allw := allw_of 3 (by decide +kernel) (by decide +kernel)
theorem kp_4 : Cond.selects "WaveRows" ⟨"WaveRows", "areDelaysGood", "()Z"⟩ ⟨"WaveRows", "areDelaysGood", "()Z"⟩ ∈ allw := allw_of 4 (by decide +kernel) (by decide +kernel)
theorem kp_5 : Cond.selects "WaveRows" ⟨"WaveRows", "firstBehind", "(IIJ)I"⟩ ⟨"WaveRows", "firstBehind", "(IIJ)I"⟩ ∈ allw := allw_of 5 (by decide +kernel) (by decide +kernel)
theorem kp_6 : Cond.selects "WaveRows" ⟨"WaveRows", "limitOf", "(IJ)J"⟩ ⟨"WaveRows", "limitOf", "(IJ)J"⟩ ∈ allw := allw_of 6 (by decide +kernel) (by decide +kernel)
theorem kp_7 : Cond.selects "WaveRows" ⟨"WaveRows", "startOfSameValues", "(IIJ)I"⟩ ⟨"WaveRows", "startOfSameValues", "(IIJ)I"⟩ ∈ allw := allw_of 7 (by decide +kernel) (by decide +kernel)
theorem kp_8 : Cond.selects "WaveRows" ⟨"WaveRows", "moveTransactions", "(III)V"⟩ ⟨"WaveRows", "moveTransactions", "(III)V"⟩ ∈ allw := allw_of 8 (by decide +kernel) (by decide +kernel)
theorem kp_9 : Cond.selects "WaveRows" ⟨"WaveRows", "endRowAt", "(II)V"⟩ ⟨"WaveRows", "endRowAt", "(II)V"⟩ ∈ allw := allw_of 9 (by decide +kernel) (by decide +kernel)
theorem kp_10 : Cond.selects "WaveRows" ⟨"WaveRows", "makePlaces", "(I)V"⟩ ⟨"WaveRows", "makePlaces", "(I)V"⟩ ∈ allw := allw_of 10 (by decide +kernel) (by decide +kernel)
theorem kp_11 : Cond.selects "WaveRows" ⟨"WaveRows", "writeElements", "(I)V"⟩ ⟨"WaveRows", "writeElements", "(I)V"⟩ ∈ allw := allw_of 11 (by decide +kernel) (by decide +kernel)
theorem kp_12 : Cond.selects "WaveRowsModel" ⟨"WaveRowsModel", "none", "(I)Z"⟩ ⟨"WaveRowsModel", "none", "(I)Z"⟩ ∈ allw := allw_of 12 (by decide +kernel) (by decide +kernel)
theorem kp_13 : Cond.selects "WaveRowsModel" ⟨"WaveRowsModel", "rises", "()Z"⟩ ⟨"WaveRowsModel", "rises", "()Z"⟩ ∈ allw := allw_of 13 (by decide +kernel) (by decide +kernel)
theorem kp_14 : Cond.selects "WaveRowsModel" ⟨"WaveRowsModel", "replace", "(II)V"⟩ ⟨"WaveRowsModel", "replace", "(II)V"⟩ ∈ allw := allw_of 14 (by decide +kernel) (by decide +kernel)
theorem kp_15 : Cond.selects "WaveRowsModel" ⟨"WaveRowsModel", "find", "(II)I"⟩ ⟨"WaveRowsModel", "find", "(II)I"⟩ ∈ allw := allw_of 15 (by decide +kernel) (by decide +kernel)
theorem kw_0 : Cond.initialized "WaveRowsLaw" ∈ allw := allw_of 16 (by decide +kernel) (by decide +kernel)
theorem kw_1 : Cond.initialized "WaveRows" ∈ allw := allw_of 17 (by decide +kernel) (by decide +kernel)
theorem kw_2 : Cond.initialized "java/lang/Math" ∈ allw := allw_of 18 (by decide +kernel) (by decide +kernel)
theorem kw_3 : Cond.initialized "WaveRowsModel" ∈ allw := allw_of 19 (by decide +kernel) (by decide +kernel)
theorem kw_4 : Cond.initialized "java/lang/Throwable" ∈ allw := allw_of 20 (by decide +kernel) (by decide +kernel)
theorem kw_5 : Cond.initialized "java/lang/Exception" ∈ allw := allw_of 21 (by decide +kernel) (by decide +kernel)
theorem kw_6 : Cond.initialized "java/lang/RuntimeException" ∈ allw := allw_of 22 (by decide +kernel) (by decide +kernel)
theorem kw_7 : Cond.initialized "java/lang/IllegalArgumentException" ∈ allw := allw_of 23 (by decide +kernel) (by decide +kernel)
theorem kw_8 : Cond.initialized "java/lang/IllegalStateException" ∈ allw := allw_of 24 (by decide +kernel) (by decide +kernel)
theorem kw_9 : Cond.initialized "java/lang/IndexOutOfBoundsException" ∈ allw := allw_of 25 (by decide +kernel) (by decide +kernel)
theorem kw_10 : Cond.initialized "java/lang/System" ∈ allw := allw_of 26 (by decide +kernel) (by decide +kernel)
theorem kw_11 : Cond.initialized "java/util/Arrays" ∈ allw := allw_of 27 (by decide +kernel) (by decide +kernel)
theorem kw_12 : Cond.classLink "WaveRowsLaw" 8 "WaveRows" ∈ allw := allw_of 28 (by decide +kernel) (by decide +kernel)
theorem kw_13 : Cond.instantiable "WaveRows" 12 ∈ allw := allw_of 29 (by decide +kernel) (by decide +kernel)
theorem kw_14 : Cond.methodLink "WaveRowsLaw" 53 ⟨"WaveRows", "<init>", "(II)V"⟩ ∈ allw := allw_of 30 (by decide +kernel) (by decide +kernel)
theorem kw_15 : Cond.instanceMethod ⟨"WaveRows", "<init>", "(II)V"⟩ ∈ allw := allw_of 31 (by decide +kernel) (by decide +kernel)
theorem kw_16 : Cond.code ⟨"WaveRows", "<init>", "(II)V"⟩ prog_1_method_1_code 4 none ∈ allw := allw_of 32 (by decide +kernel) (by decide +kernel)
theorem kw_17 : Cond.methodLink "WaveRows" 1 ⟨"java/lang/Object", "<init>", "()V"⟩ ∈ allw := allw_of 33 (by decide +kernel) (by decide +kernel)
theorem kw_18 : Cond.instanceMethod ⟨"java/lang/Object", "<init>", "()V"⟩ ∈ allw := allw_of 34 (by decide +kernel) (by decide +kernel)
theorem kw_19 : Cond.code ⟨"java/lang/Object", "<init>", "()V"⟩ object_method_1_code 1 none ∈ allw := allw_of 35 (by decide +kernel) (by decide +kernel)
theorem kw_20 : Cond.methodLink "WaveRows" 27 ⟨"java/lang/Math", "min", "(II)I"⟩ ∈ allw := allw_of 36 (by decide +kernel) (by decide +kernel)
theorem kw_21 : Cond.static ⟨"java/lang/Math", "min", "(II)I"⟩ ∈ allw := allw_of 37 (by decide +kernel) (by decide +kernel)
theorem kw_22 : Cond.code ⟨"java/lang/Math", "min", "(II)I"⟩ prog_9_method_69_code 2 (some .int) ∈ allw := allw_of 38 (by decide +kernel) (by decide +kernel)
theorem kw_23 : Cond.fieldLink "WaveRows" 9 "WaveRows" "drivers" "I" ∈ allw := allw_of 39 (by decide +kernel) (by decide +kernel)
theorem kw_24 : Cond.fieldLink "WaveRows" 13 "WaveRows" "room" "I" ∈ allw := allw_of 40 (by decide +kernel) (by decide +kernel)
theorem kw_25 : Cond.fieldLink "WaveRows" 16 "WaveRows" "driverValues" "[J" ∈ allw := allw_of 41 (by decide +kernel) (by decide +kernel)
theorem kw_26 : Cond.fieldLink "WaveRows" 20 "WaveRows" "rowStarts" "[I" ∈ allw := allw_of 42 (by decide +kernel) (by decide +kernel)
theorem kw_27 : Cond.fieldLink "WaveRows" 33 "WaveRows" "times" "[J" ∈ allw := allw_of 43 (by decide +kernel) (by decide +kernel)
theorem kw_28 : Cond.fieldLink "WaveRows" 36 "WaveRows" "values" "[J" ∈ allw := allw_of 44 (by decide +kernel) (by decide +kernel)
theorem kw_29 : Cond.fieldLink "WaveRows" 39 "WaveRows" "elementValues" "[J" ∈ allw := allw_of 45 (by decide +kernel) (by decide +kernel)
theorem kw_30 : Cond.fieldLink "WaveRows" 42 "WaveRows" "elementDelays" "[J" ∈ allw := allw_of 46 (by decide +kernel) (by decide +kernel)
theorem kw_31 : Cond.fieldLink "WaveRows" 54 "WaveRows" "elementCount" "I" ∈ allw := allw_of 47 (by decide +kernel) (by decide +kernel)
theorem kw_32 : Cond.fieldLink "WaveRows" 24 "WaveRows" "activeDrivers" "[I" ∈ allw := allw_of 48 (by decide +kernel) (by decide +kernel)
theorem kw_33 : Cond.fieldLink "WaveRows" 112 "WaveRows" "activeCount" "I" ∈ allw := allw_of 49 (by decide +kernel) (by decide +kernel)
theorem kw_34 : Cond.fieldLink "WaveRows" 78 "WaveRows" "timeNow" "J" ∈ allw := allw_of 50 (by decide +kernel) (by decide +kernel)
theorem kw_60 : Cond.arrayClass .long ∈ allw := allw_of 76 (by decide +kernel) (by decide +kernel)
theorem kw_61 : Cond.arrayClass .int ∈ allw := allw_of 77 (by decide +kernel) (by decide +kernel)
theorem kw_62 : Cond.methodLink "WaveRowsLaw" 69 ⟨"WaveRows", "drop", "()I"⟩ ∈ allw := allw_of 78 (by decide +kernel) (by decide +kernel)
theorem kw_63 : Cond.instanceMethod ⟨"WaveRows", "drop", "()I"⟩ ∈ allw := allw_of 79 (by decide +kernel) (by decide +kernel)
theorem kw_64 : Cond.selects "WaveRows" ⟨"WaveRows", "drop", "()I"⟩ ⟨"WaveRows", "drop", "()I"⟩ ∈ allw := allw_of 80 (by decide +kernel) (by decide +kernel)
theorem kw_65 : Cond.code ⟨"WaveRows", "drop", "()I"⟩ prog_1_method_3_code 2 (some .int) ∈ allw := allw_of 81 (by decide +kernel) (by decide +kernel)
theorem kw_66 : Cond.methodLink "WaveRowsLaw" 85 ⟨"WaveRows", "active", "(I)I"⟩ ∈ allw := allw_of 82 (by decide +kernel) (by decide +kernel)
theorem kw_67 : Cond.instanceMethod ⟨"WaveRows", "active", "(I)I"⟩ ∈ allw := allw_of 83 (by decide +kernel) (by decide +kernel)
theorem kw_68 : Cond.selects "WaveRows" ⟨"WaveRows", "active", "(I)I"⟩ ⟨"WaveRows", "active", "(I)I"⟩ ∈ allw := allw_of 84 (by decide +kernel) (by decide +kernel)
theorem kw_69 : Cond.code ⟨"WaveRows", "active", "(I)I"⟩ prog_1_method_7_code 2 (some .int) ∈ allw := allw_of 85 (by decide +kernel) (by decide +kernel)
theorem kw_70 : Cond.methodLink "WaveRowsLaw" 89 ⟨"WaveRows", "now", "()J"⟩ ∈ allw := allw_of 86 (by decide +kernel) (by decide +kernel)
theorem kw_71 : Cond.instanceMethod ⟨"WaveRows", "now", "()J"⟩ ∈ allw := allw_of 87 (by decide +kernel) (by decide +kernel)
theorem kw_72 : Cond.selects "WaveRows" ⟨"WaveRows", "now", "()J"⟩ ⟨"WaveRows", "now", "()J"⟩ ∈ allw := allw_of 88 (by decide +kernel) (by decide +kernel)
theorem kw_73 : Cond.code ⟨"WaveRows", "now", "()J"⟩ prog_1_method_8_code 1 (some .long) ∈ allw := allw_of 89 (by decide +kernel) (by decide +kernel)
theorem kw_74 : Cond.methodLink "WaveRowsLaw" 94 ⟨"WaveRows", "next", "()J"⟩ ∈ allw := allw_of 90 (by decide +kernel) (by decide +kernel)
theorem kw_75 : Cond.instanceMethod ⟨"WaveRows", "next", "()J"⟩ ∈ allw := allw_of 91 (by decide +kernel) (by decide +kernel)
theorem kw_76 : Cond.selects "WaveRows" ⟨"WaveRows", "next", "()J"⟩ ⟨"WaveRows", "next", "()J"⟩ ∈ allw := allw_of 92 (by decide +kernel) (by decide +kernel)
theorem kw_77 : Cond.code ⟨"WaveRows", "next", "()J"⟩ prog_1_method_9_code 6 (some .long) ∈ allw := allw_of 93 (by decide +kernel) (by decide +kernel)
theorem kw_78 : Cond.constantLong "WaveRows" 115 (-1) ∈ allw := allw_of 94 (by decide +kernel) (by decide +kernel)
theorem kw_79 : Cond.methodLink "WaveRows" 106 ⟨"WaveRows", "rowLength", "(I)I"⟩ ∈ allw := allw_of 95 (by decide +kernel) (by decide +kernel)
theorem kw_81 : Cond.instanceMethod ⟨"WaveRows", "rowLength", "(I)I"⟩ ∈ allw := allw_of 97 (by decide +kernel) (by decide +kernel)
theorem kw_82 : Cond.code ⟨"WaveRows", "rowLength", "(I)I"⟩ prog_1_method_19_code 2 (some .int) ∈ allw := allw_of 98 (by decide +kernel) (by decide +kernel)
theorem kw_83 : Cond.methodLink "WaveRows" 117 ⟨"java/lang/Math", "min", "(JJ)J"⟩ ∈ allw := allw_of 99 (by decide +kernel) (by decide +kernel)
theorem kw_84 : Cond.static ⟨"java/lang/Math", "min", "(JJ)J"⟩ ∈ allw := allw_of 100 (by decide +kernel) (by decide +kernel)
theorem kw_85 : Cond.code ⟨"java/lang/Math", "min", "(JJ)J"⟩ prog_9_method_70_code 4 (some .long) ∈ allw := allw_of 101 (by decide +kernel) (by decide +kernel)
theorem kw_86 : Cond.methodLink "WaveRowsLaw" 112 ⟨"WaveRows", "total", "()I"⟩ ∈ allw := allw_of 102 (by decide +kernel) (by decide +kernel)
theorem kw_87 : Cond.instanceMethod ⟨"WaveRows", "total", "()I"⟩ ∈ allw := allw_of 103 (by decide +kernel) (by decide +kernel)
theorem kw_88 : Cond.selects "WaveRows" ⟨"WaveRows", "total", "()I"⟩ ⟨"WaveRows", "total", "()I"⟩ ∈ allw := allw_of 104 (by decide +kernel) (by decide +kernel)
theorem kw_89 : Cond.code ⟨"WaveRows", "total", "()I"⟩ prog_1_method_14_code 1 (some .int) ∈ allw := allw_of 105 (by decide +kernel) (by decide +kernel)
theorem kw_90 : Cond.methodLink "WaveRowsLaw" 47 ⟨"WaveRowsLaw", "cell", "([II)I"⟩ ∈ allw := allw_of 106 (by decide +kernel) (by decide +kernel)
theorem kw_91 : Cond.static ⟨"WaveRowsLaw", "cell", "([II)I"⟩ ∈ allw := allw_of 107 (by decide +kernel) (by decide +kernel)
theorem kw_92 : Cond.code ⟨"WaveRowsLaw", "cell", "([II)I"⟩ method_2_code 2 (some .int) ∈ allw := allw_of 108 (by decide +kernel) (by decide +kernel)
theorem kw_93 : Cond.methodLink "WaveRowsLaw" 61 ⟨"WaveRowsLaw", "element", "(LWaveRows;JJ)I"⟩ ∈ allw := allw_of 109 (by decide +kernel) (by decide +kernel)
theorem kw_94 : Cond.static ⟨"WaveRowsLaw", "element", "(LWaveRows;JJ)I"⟩ ∈ allw := allw_of 110 (by decide +kernel) (by decide +kernel)
theorem kw_95 : Cond.codeWith ⟨"WaveRowsLaw", "element", "(LWaveRows;JJ)I"⟩ method_3_code 6 (some .int) [(0, 6, 9, 13), (0, 6, 13, 15)] ∈ allw := allw_of 111 (by decide +kernel) (by decide +kernel)
theorem kw_96 : Cond.classLink "WaveRowsLaw" 13 "java/lang/IllegalArgumentException" ∈ allw := allw_of 112 (by decide +kernel) (by decide +kernel)
theorem kw_97 : Cond.classLink "WaveRowsLaw" 15 "java/lang/IllegalStateException" ∈ allw := allw_of 113 (by decide +kernel) (by decide +kernel)
theorem kw_98 : Cond.methodLink "WaveRowsLaw" 7 ⟨"WaveRows", "element", "(JJ)V"⟩ ∈ allw := allw_of 114 (by decide +kernel) (by decide +kernel)
theorem kw_99 : Cond.instanceMethod ⟨"WaveRows", "element", "(JJ)V"⟩ ∈ allw := allw_of 115 (by decide +kernel) (by decide +kernel)
theorem kw_100 : Cond.selects "WaveRows" ⟨"WaveRows", "element", "(JJ)V"⟩ ⟨"WaveRows", "element", "(JJ)V"⟩ ∈ allw := allw_of 116 (by decide +kernel) (by decide +kernel)
theorem kw_101 : Cond.code ⟨"WaveRows", "element", "(JJ)V"⟩ prog_1_method_2_code 5 none ∈ allw := allw_of 117 (by decide +kernel) (by decide +kernel)
theorem kw_102 : Cond.constantLong "WaveRows" 45 1152921504606846976 ∈ allw := allw_of 118 (by decide +kernel) (by decide +kernel)
theorem kw_103 : Cond.classLink "WaveRows" 47 "java/lang/IllegalArgumentException" ∈ allw := allw_of 119 (by decide +kernel) (by decide +kernel)
theorem kw_104 : Cond.instantiable "java/lang/IllegalArgumentException" 6 ∈ allw := allw_of 120 (by decide +kernel) (by decide +kernel)
theorem kw_112 : Cond.selects "java/lang/IllegalArgumentException" ⟨"java/lang/Throwable", "fillInStackTrace", "(I)Ljava/lang/Throwable;"⟩ ⟨"java/lang/Throwable", "fillInStackTrace", "(I)Ljava/lang/Throwable;"⟩ ∈ allw := allw_of 128 (by decide +kernel) (by decide +kernel)
theorem kw_113 : Cond.selects "java/lang/IllegalArgumentException" ⟨"java/lang/Throwable", "fillInStackTrace", "()Ljava/lang/Throwable;"⟩ ⟨"java/lang/Throwable", "fillInStackTrace", "()Ljava/lang/Throwable;"⟩ ∈ allw := allw_of 129 (by decide +kernel) (by decide +kernel)
theorem kw_124 : Cond.fieldLink "java/lang/Throwable" 198 "java/lang/Throwable" "backtrace" "Ljava/lang/Object;" ∈ allw := allw_of 140 (by decide +kernel) (by decide +kernel)
theorem kw_126 : Cond.instanceMethod ⟨"java/lang/Throwable", "<init>", "()V"⟩ ∈ allw := allw_of 142 (by decide +kernel) (by decide +kernel)
theorem kw_127 : Cond.code ⟨"java/lang/Throwable", "<init>", "()V"⟩ prog_13_method_1_code 1 none ∈ allw := allw_of 143 (by decide +kernel) (by decide +kernel)
theorem kw_128 : Cond.methodLink "java/lang/Throwable" 1 ⟨"java/lang/Object", "<init>", "()V"⟩ ∈ allw := allw_of 144 (by decide +kernel) (by decide +kernel)
theorem kw_129 : Cond.fieldLink "java/lang/Throwable" 13 "java/lang/Throwable" "UNASSIGNED_STACK" "[Ljava/lang/StackTraceElement;" ∈ allw := allw_of 145 (by decide +kernel) (by decide +kernel)
theorem kw_131 : Cond.fieldLink "java/lang/Throwable" 20 "java/lang/Throwable" "SUPPRESSED_SENTINEL" "Ljava/util/List;" ∈ allw := allw_of 147 (by decide +kernel) (by decide +kernel)
theorem kw_133 : Cond.methodLink "java/lang/Throwable" 27 ⟨"java/lang/Throwable", "fillInStackTrace", "()Ljava/lang/Throwable;"⟩ ∈ allw := allw_of 149 (by decide +kernel) (by decide +kernel)
theorem kw_134 : Cond.instanceMethod ⟨"java/lang/Throwable", "fillInStackTrace", "()Ljava/lang/Throwable;"⟩ ∈ allw := allw_of 150 (by decide +kernel) (by decide +kernel)
theorem kw_136 : Cond.selects "java/lang/IllegalStateException" ⟨"java/lang/Throwable", "fillInStackTrace", "()Ljava/lang/Throwable;"⟩ ⟨"java/lang/Throwable", "fillInStackTrace", "()Ljava/lang/Throwable;"⟩ ∈ allw := allw_of 152 (by decide +kernel) (by decide +kernel)
theorem kw_137 : Cond.selects "java/lang/IndexOutOfBoundsException" ⟨"java/lang/Throwable", "fillInStackTrace", "()Ljava/lang/Throwable;"⟩ ⟨"java/lang/Throwable", "fillInStackTrace", "()Ljava/lang/Throwable;"⟩ ∈ allw := allw_of 153 (by decide +kernel) (by decide +kernel)
theorem kw_139 : Cond.methodLink "java/lang/Throwable" 202 ⟨"java/lang/Throwable", "fillInStackTrace", "(I)Ljava/lang/Throwable;"⟩ ∈ allw := allw_of 155 (by decide +kernel) (by decide +kernel)
theorem kw_141 : Cond.instanceMethod ⟨"java/lang/Throwable", "fillInStackTrace", "(I)Ljava/lang/Throwable;"⟩ ∈ allw := allw_of 157 (by decide +kernel) (by decide +kernel)
theorem kw_142 : Cond.instantiable "java/lang/Throwable" 6 ∈ allw := allw_of 158 (by decide +kernel) (by decide +kernel)
theorem kw_143 : Cond.native ⟨"java/lang/Throwable", "fillInStackTrace", "(I)Ljava/lang/Throwable;"⟩ ∈ allw := allw_of 159 (by decide +kernel) (by decide +kernel)
theorem kw_145 : Cond.methodLink "WaveRows" 51 ⟨"java/lang/IllegalArgumentException", "<init>", "(Ljava/lang/String;)V"⟩ ∈ allw := allw_of 161 (by decide +kernel) (by decide +kernel)
theorem kw_146 : Cond.instanceMethod ⟨"java/lang/IllegalArgumentException", "<init>", "(Ljava/lang/String;)V"⟩ ∈ allw := allw_of 162 (by decide +kernel) (by decide +kernel)
theorem kw_147 : Cond.code ⟨"java/lang/IllegalArgumentException", "<init>", "(Ljava/lang/String;)V"⟩ prog_6_method_2_code 2 none ∈ allw := allw_of 163 (by decide +kernel) (by decide +kernel)
theorem kw_148 : Cond.methodLink "java/lang/IllegalArgumentException" 7 ⟨"java/lang/RuntimeException", "<init>", "(Ljava/lang/String;)V"⟩ ∈ allw := allw_of 164 (by decide +kernel) (by decide +kernel)
theorem kw_149 : Cond.instanceMethod ⟨"java/lang/RuntimeException", "<init>", "(Ljava/lang/String;)V"⟩ ∈ allw := allw_of 165 (by decide +kernel) (by decide +kernel)
theorem kw_150 : Cond.code ⟨"java/lang/RuntimeException", "<init>", "(Ljava/lang/String;)V"⟩ prog_10_method_2_code 2 none ∈ allw := allw_of 166 (by decide +kernel) (by decide +kernel)
theorem kw_151 : Cond.methodLink "java/lang/RuntimeException" 7 ⟨"java/lang/Exception", "<init>", "(Ljava/lang/String;)V"⟩ ∈ allw := allw_of 167 (by decide +kernel) (by decide +kernel)
theorem kw_152 : Cond.instanceMethod ⟨"java/lang/Exception", "<init>", "(Ljava/lang/String;)V"⟩ ∈ allw := allw_of 168 (by decide +kernel) (by decide +kernel)
theorem kw_153 : Cond.code ⟨"java/lang/Exception", "<init>", "(Ljava/lang/String;)V"⟩ prog_5_method_2_code 2 none ∈ allw := allw_of 169 (by decide +kernel) (by decide +kernel)
theorem kw_154 : Cond.methodLink "java/lang/Exception" 7 ⟨"java/lang/Throwable", "<init>", "(Ljava/lang/String;)V"⟩ ∈ allw := allw_of 170 (by decide +kernel) (by decide +kernel)
theorem kw_155 : Cond.instanceMethod ⟨"java/lang/Throwable", "<init>", "(Ljava/lang/String;)V"⟩ ∈ allw := allw_of 171 (by decide +kernel) (by decide +kernel)
theorem kw_156 : Cond.code ⟨"java/lang/Throwable", "<init>", "(Ljava/lang/String;)V"⟩ prog_13_method_2_code 2 none ∈ allw := allw_of 172 (by decide +kernel) (by decide +kernel)
theorem kw_157 : Cond.fieldLink "java/lang/Throwable" 198 "java/lang/Throwable" "backtrace" "Ljava/lang/Object;" ∈ allw := allw_of 173 (by decide +kernel) (by decide +kernel)
theorem kw_158 : Cond.fieldLink "java/lang/Throwable" 31 "java/lang/Throwable" "detailMessage" "Ljava/lang/String;" ∈ allw := allw_of 174 (by decide +kernel) (by decide +kernel)
theorem kw_159 : Cond.fieldLink "java/lang/Throwable" 7 "java/lang/Throwable" "cause" "Ljava/lang/Throwable;" ∈ allw := allw_of 175 (by decide +kernel) (by decide +kernel)
theorem kw_160 : Cond.fieldLink "java/lang/Throwable" 17 "java/lang/Throwable" "stackTrace" "[Ljava/lang/StackTraceElement;" ∈ allw := allw_of 176 (by decide +kernel) (by decide +kernel)
theorem kw_161 : Cond.fieldLink "java/lang/Throwable" 24 "java/lang/Throwable" "suppressedExceptions" "Ljava/util/List;" ∈ allw := allw_of 177 (by decide +kernel) (by decide +kernel)
theorem kw_170 : Cond.arrayClass .byte ∈ allw := allw_of 186 (by decide +kernel) (by decide +kernel)
theorem kw_171 : Cond.classLink "WaveRows" 57 "java/lang/IllegalStateException" ∈ allw := allw_of 187 (by decide +kernel) (by decide +kernel)
theorem kw_172 : Cond.instantiable "java/lang/IllegalStateException" 6 ∈ allw := allw_of 188 (by decide +kernel) (by decide +kernel)
theorem kw_174 : Cond.selects "java/lang/IllegalStateException" ⟨"java/lang/Throwable", "fillInStackTrace", "(I)Ljava/lang/Throwable;"⟩ ⟨"java/lang/Throwable", "fillInStackTrace", "(I)Ljava/lang/Throwable;"⟩ ∈ allw := allw_of 190 (by decide +kernel) (by decide +kernel)
theorem kw_181 : Cond.methodLink "WaveRows" 61 ⟨"java/lang/IllegalStateException", "<init>", "(Ljava/lang/String;)V"⟩ ∈ allw := allw_of 197 (by decide +kernel) (by decide +kernel)
theorem kw_182 : Cond.instanceMethod ⟨"java/lang/IllegalStateException", "<init>", "(Ljava/lang/String;)V"⟩ ∈ allw := allw_of 198 (by decide +kernel) (by decide +kernel)
theorem kw_183 : Cond.code ⟨"java/lang/IllegalStateException", "<init>", "(Ljava/lang/String;)V"⟩ prog_7_method_2_code 2 none ∈ allw := allw_of 199 (by decide +kernel) (by decide +kernel)
theorem kw_184 : Cond.methodLink "java/lang/IllegalStateException" 7 ⟨"java/lang/RuntimeException", "<init>", "(Ljava/lang/String;)V"⟩ ∈ allw := allw_of 200 (by decide +kernel) (by decide +kernel)
theorem kw_187 : Cond.methodLink "WaveRowsLaw" 73 ⟨"WaveRowsLaw", "assign", "(LWaveRows;IIJ[J)I"⟩ ∈ allw := allw_of 203 (by decide +kernel) (by decide +kernel)
theorem kw_188 : Cond.static ⟨"WaveRowsLaw", "assign", "(LWaveRows;IIJ[J)I"⟩ ∈ allw := allw_of 204 (by decide +kernel) (by decide +kernel)
theorem kw_189 : Cond.codeWith ⟨"WaveRowsLaw", "assign", "(LWaveRows;IIJ[J)I"⟩ method_4_code 7 (some .int) [(0, 12, 15, 21), (0, 12, 19, 15), (0, 12, 23, 13)] ∈ allw := allw_of 205 (by decide +kernel) (by decide +kernel)
theorem kw_190 : Cond.classLink "WaveRowsLaw" 21 "java/lang/IndexOutOfBoundsException" ∈ allw := allw_of 206 (by decide +kernel) (by decide +kernel)
theorem kw_191 : Cond.methodLink "WaveRowsLaw" 17 ⟨"WaveRows", "assign", "(IIJ)I"⟩ ∈ allw := allw_of 207 (by decide +kernel) (by decide +kernel)
theorem kw_192 : Cond.instanceMethod ⟨"WaveRows", "assign", "(IIJ)I"⟩ ∈ allw := allw_of 208 (by decide +kernel) (by decide +kernel)
theorem kw_193 : Cond.selects "WaveRows" ⟨"WaveRows", "assign", "(IIJ)I"⟩ ⟨"WaveRows", "assign", "(IIJ)I"⟩ ∈ allw := allw_of 209 (by decide +kernel) (by decide +kernel)
theorem kw_194 : Cond.code ⟨"WaveRows", "assign", "(IIJ)I"⟩ prog_1_method_4_code 14 (some .int) ∈ allw := allw_of 210 (by decide +kernel) (by decide +kernel)
theorem kw_195 : Cond.methodLink "WaveRows" 62 ⟨"WaveRows", "requireDriver", "(I)V"⟩ ∈ allw := allw_of 211 (by decide +kernel) (by decide +kernel)
theorem kw_197 : Cond.instanceMethod ⟨"WaveRows", "requireDriver", "(I)V"⟩ ∈ allw := allw_of 213 (by decide +kernel) (by decide +kernel)
theorem kw_198 : Cond.code ⟨"WaveRows", "requireDriver", "(I)V"⟩ prog_1_method_15_code 2 none ∈ allw := allw_of 214 (by decide +kernel) (by decide +kernel)
theorem kw_199 : Cond.classLink "WaveRows" 120 "java/lang/IndexOutOfBoundsException" ∈ allw := allw_of 215 (by decide +kernel) (by decide +kernel)
theorem kw_200 : Cond.instantiable "java/lang/IndexOutOfBoundsException" 6 ∈ allw := allw_of 216 (by decide +kernel) (by decide +kernel)
theorem kw_202 : Cond.selects "java/lang/IndexOutOfBoundsException" ⟨"java/lang/Throwable", "fillInStackTrace", "(I)Ljava/lang/Throwable;"⟩ ⟨"java/lang/Throwable", "fillInStackTrace", "(I)Ljava/lang/Throwable;"⟩ ∈ allw := allw_of 218 (by decide +kernel) (by decide +kernel)
theorem kw_209 : Cond.methodLink "WaveRows" 124 ⟨"java/lang/IndexOutOfBoundsException", "<init>", "(Ljava/lang/String;)V"⟩ ∈ allw := allw_of 225 (by decide +kernel) (by decide +kernel)
theorem kw_210 : Cond.instanceMethod ⟨"java/lang/IndexOutOfBoundsException", "<init>", "(Ljava/lang/String;)V"⟩ ∈ allw := allw_of 226 (by decide +kernel) (by decide +kernel)
theorem kw_211 : Cond.code ⟨"java/lang/IndexOutOfBoundsException", "<init>", "(Ljava/lang/String;)V"⟩ prog_8_method_2_code 2 none ∈ allw := allw_of 227 (by decide +kernel) (by decide +kernel)
theorem kw_212 : Cond.methodLink "java/lang/IndexOutOfBoundsException" 7 ⟨"java/lang/RuntimeException", "<init>", "(Ljava/lang/String;)V"⟩ ∈ allw := allw_of 228 (by decide +kernel) (by decide +kernel)
theorem kw_216 : Cond.methodLink "WaveRows" 68 ⟨"WaveRows", "isLimitGood", "(IJ)Z"⟩ ∈ allw := allw_of 232 (by decide +kernel) (by decide +kernel)
theorem kw_218 : Cond.instanceMethod ⟨"WaveRows", "isLimitGood", "(IJ)Z"⟩ ∈ allw := allw_of 234 (by decide +kernel) (by decide +kernel)
theorem kw_219 : Cond.code ⟨"WaveRows", "isLimitGood", "(IJ)Z"⟩ prog_1_method_16_code 4 (some .boolean) ∈ allw := allw_of 235 (by decide +kernel) (by decide +kernel)
theorem kw_220 : Cond.methodLink "WaveRows" 72 ⟨"WaveRows", "areDelaysGood", "()Z"⟩ ∈ allw := allw_of 236 (by decide +kernel) (by decide +kernel)
theorem kw_222 : Cond.instanceMethod ⟨"WaveRows", "areDelaysGood", "()Z"⟩ ∈ allw := allw_of 238 (by decide +kernel) (by decide +kernel)
theorem kw_223 : Cond.code ⟨"WaveRows", "areDelaysGood", "()Z"⟩ prog_1_method_17_code 4 (some .boolean) ∈ allw := allw_of 239 (by decide +kernel) (by decide +kernel)
theorem kw_225 : Cond.methodLink "WaveRows" 82 ⟨"WaveRows", "firstBehind", "(IIJ)I"⟩ ∈ allw := allw_of 241 (by decide +kernel) (by decide +kernel)
theorem kw_227 : Cond.instanceMethod ⟨"WaveRows", "firstBehind", "(IIJ)I"⟩ ∈ allw := allw_of 243 (by decide +kernel) (by decide +kernel)
theorem kw_228 : Cond.code ⟨"WaveRows", "firstBehind", "(IIJ)I"⟩ prog_1_method_20_code 6 (some .int) ∈ allw := allw_of 244 (by decide +kernel) (by decide +kernel)
theorem kw_229 : Cond.methodLink "WaveRows" 86 ⟨"WaveRows", "limitOf", "(IJ)J"⟩ ∈ allw := allw_of 245 (by decide +kernel) (by decide +kernel)
theorem kw_231 : Cond.instanceMethod ⟨"WaveRows", "limitOf", "(IJ)J"⟩ ∈ allw := allw_of 247 (by decide +kernel) (by decide +kernel)
theorem kw_232 : Cond.code ⟨"WaveRows", "limitOf", "(IJ)J"⟩ prog_1_method_18_code 4 (some .long) ∈ allw := allw_of 248 (by decide +kernel) (by decide +kernel)
theorem kw_233 : Cond.methodLink "WaveRows" 90 ⟨"WaveRows", "startOfSameValues", "(IIJ)I"⟩ ∈ allw := allw_of 249 (by decide +kernel) (by decide +kernel)
theorem kw_235 : Cond.instanceMethod ⟨"WaveRows", "startOfSameValues", "(IIJ)I"⟩ ∈ allw := allw_of 251 (by decide +kernel) (by decide +kernel)
theorem kw_236 : Cond.code ⟨"WaveRows", "startOfSameValues", "(IIJ)I"⟩ prog_1_method_21_code 6 (some .int) ∈ allw := allw_of 252 (by decide +kernel) (by decide +kernel)
theorem kw_238 : Cond.methodLink "WaveRows" 95 ⟨"WaveRows", "moveTransactions", "(III)V"⟩ ∈ allw := allw_of 254 (by decide +kernel) (by decide +kernel)
theorem kw_240 : Cond.instanceMethod ⟨"WaveRows", "moveTransactions", "(III)V"⟩ ∈ allw := allw_of 256 (by decide +kernel) (by decide +kernel)
theorem kw_241 : Cond.code ⟨"WaveRows", "moveTransactions", "(III)V"⟩ prog_1_method_22_code 4 none ∈ allw := allw_of 257 (by decide +kernel) (by decide +kernel)
theorem kw_242 : Cond.methodLink "WaveRows" 129 ⟨"java/lang/System", "arraycopy", "(Ljava/lang/Object;ILjava/lang/Object;II)V"⟩ ∈ allw := allw_of 258 (by decide +kernel) (by decide +kernel)
theorem kw_243 : Cond.static ⟨"java/lang/System", "arraycopy", "(Ljava/lang/Object;ILjava/lang/Object;II)V"⟩ ∈ allw := allw_of 259 (by decide +kernel) (by decide +kernel)
theorem kw_244 : Cond.native ⟨"java/lang/System", "arraycopy", "(Ljava/lang/Object;ILjava/lang/Object;II)V"⟩ ∈ allw := allw_of 260 (by decide +kernel) (by decide +kernel)
theorem kw_245 : Cond.methodLink "WaveRows" 99 ⟨"WaveRows", "endRowAt", "(II)V"⟩ ∈ allw := allw_of 261 (by decide +kernel) (by decide +kernel)
theorem kw_247 : Cond.instanceMethod ⟨"WaveRows", "endRowAt", "(II)V"⟩ ∈ allw := allw_of 263 (by decide +kernel) (by decide +kernel)
theorem kw_248 : Cond.code ⟨"WaveRows", "endRowAt", "(II)V"⟩ prog_1_method_23_code 7 none ∈ allw := allw_of 264 (by decide +kernel) (by decide +kernel)
theorem kw_249 : Cond.methodLink "WaveRows" 135 ⟨"WaveRows", "makePlaces", "(I)V"⟩ ∈ allw := allw_of 265 (by decide +kernel) (by decide +kernel)
theorem kw_251 : Cond.instanceMethod ⟨"WaveRows", "makePlaces", "(I)V"⟩ ∈ allw := allw_of 267 (by decide +kernel) (by decide +kernel)
theorem kw_252 : Cond.code ⟨"WaveRows", "makePlaces", "(I)V"⟩ prog_1_method_24_code 3 none ∈ allw := allw_of 268 (by decide +kernel) (by decide +kernel)
theorem kw_253 : Cond.methodLink "WaveRows" 138 ⟨"java/lang/Math", "max", "(II)I"⟩ ∈ allw := allw_of 269 (by decide +kernel) (by decide +kernel)
theorem kw_254 : Cond.static ⟨"java/lang/Math", "max", "(II)I"⟩ ∈ allw := allw_of 270 (by decide +kernel) (by decide +kernel)
theorem kw_255 : Cond.code ⟨"java/lang/Math", "max", "(II)I"⟩ prog_9_method_65_code 2 (some .int) ∈ allw := allw_of 271 (by decide +kernel) (by decide +kernel)
theorem kw_256 : Cond.methodLink "WaveRows" 141 ⟨"java/util/Arrays", "copyOf", "([JI)[J"⟩ ∈ allw := allw_of 272 (by decide +kernel) (by decide +kernel)
theorem kw_257 : Cond.static ⟨"java/util/Arrays", "copyOf", "([JI)[J"⟩ ∈ allw := allw_of 273 (by decide +kernel) (by decide +kernel)
theorem kw_258 : Cond.code ⟨"java/util/Arrays", "copyOf", "([JI)[J"⟩ prog_14_method_124_code 3 (some (.array .long)) ∈ allw := allw_of 274 (by decide +kernel) (by decide +kernel)
theorem kw_259 : Cond.methodLink "java/util/Arrays" 319 ⟨"[J", "clone", "()Ljava/lang/Object;"⟩ ∈ allw := allw_of 275 (by decide +kernel) (by decide +kernel)
theorem kw_261 : Cond.native ⟨"java/lang/Object", "clone", "()Ljava/lang/Object;"⟩ ∈ allw := allw_of 277 (by decide +kernel) (by decide +kernel)
theorem kw_262 : Cond.instanceMethod ⟨"java/lang/Object", "clone", "()Ljava/lang/Object;"⟩ ∈ allw := allw_of 278 (by decide +kernel) (by decide +kernel)
theorem kw_263 : Cond.selects "[J" ⟨"[J", "clone", "()Ljava/lang/Object;"⟩ ⟨"java/lang/Object", "clone", "()Ljava/lang/Object;"⟩ ∈ allw := allw_of 279 (by decide +kernel) (by decide +kernel)
theorem kw_265 : Cond.classLink "java/util/Arrays" 320 "[J" ∈ allw := allw_of 281 (by decide +kernel) (by decide +kernel)
theorem kw_266 : Cond.methodLink "java/util/Arrays" 304 ⟨"java/lang/Math", "min", "(II)I"⟩ ∈ allw := allw_of 282 (by decide +kernel) (by decide +kernel)
theorem kw_267 : Cond.methodLink "java/util/Arrays" 150 ⟨"java/lang/System", "arraycopy", "(Ljava/lang/Object;ILjava/lang/Object;II)V"⟩ ∈ allw := allw_of 283 (by decide +kernel) (by decide +kernel)
theorem kw_268 : Cond.methodLink "WaveRows" 103 ⟨"WaveRows", "writeElements", "(I)V"⟩ ∈ allw := allw_of 284 (by decide +kernel) (by decide +kernel)
theorem kw_270 : Cond.instanceMethod ⟨"WaveRows", "writeElements", "(I)V"⟩ ∈ allw := allw_of 286 (by decide +kernel) (by decide +kernel)
theorem kw_271 : Cond.code ⟨"WaveRows", "writeElements", "(I)V"⟩ prog_1_method_25_code 3 none ∈ allw := allw_of 287 (by decide +kernel) (by decide +kernel)
theorem kw_272 : Cond.methodLink "WaveRowsLaw" 77 ⟨"WaveRowsLaw", "start", "(LWaveRows;IJ[J)I"⟩ ∈ allw := allw_of 288 (by decide +kernel) (by decide +kernel)
theorem kw_273 : Cond.static ⟨"WaveRowsLaw", "start", "(LWaveRows;IJ[J)I"⟩ ∈ allw := allw_of 289 (by decide +kernel) (by decide +kernel)
theorem kw_274 : Cond.codeWith ⟨"WaveRowsLaw", "start", "(LWaveRows;IJ[J)I"⟩ method_5_code 6 (some .int) [(0, 11, 14, 21)] ∈ allw := allw_of 290 (by decide +kernel) (by decide +kernel)
theorem kw_275 : Cond.methodLink "WaveRowsLaw" 23 ⟨"WaveRows", "start", "(IJ)I"⟩ ∈ allw := allw_of 291 (by decide +kernel) (by decide +kernel)
theorem kw_276 : Cond.instanceMethod ⟨"WaveRows", "start", "(IJ)I"⟩ ∈ allw := allw_of 292 (by decide +kernel) (by decide +kernel)
theorem kw_277 : Cond.selects "WaveRows" ⟨"WaveRows", "start", "(IJ)I"⟩ ⟨"WaveRows", "start", "(IJ)I"⟩ ∈ allw := allw_of 293 (by decide +kernel) (by decide +kernel)
theorem kw_278 : Cond.code ⟨"WaveRows", "start", "(IJ)I"⟩ prog_1_method_5_code 5 (some .int) ∈ allw := allw_of 294 (by decide +kernel) (by decide +kernel)
theorem kw_279 : Cond.methodLink "WaveRowsLaw" 81 ⟨"WaveRowsLaw", "advance", "(LWaveRows;J[J)I"⟩ ∈ allw := allw_of 295 (by decide +kernel) (by decide +kernel)
theorem kw_280 : Cond.static ⟨"WaveRowsLaw", "advance", "(LWaveRows;J[J)I"⟩ ∈ allw := allw_of 296 (by decide +kernel) (by decide +kernel)
theorem kw_281 : Cond.codeWith ⟨"WaveRowsLaw", "advance", "(LWaveRows;J[J)I"⟩ method_6_code 5 (some .int) [(0, 9, 12, 13)] ∈ allw := allw_of 297 (by decide +kernel) (by decide +kernel)
theorem kw_282 : Cond.methodLink "WaveRowsLaw" 27 ⟨"WaveRows", "advance", "(J)I"⟩ ∈ allw := allw_of 298 (by decide +kernel) (by decide +kernel)
theorem kw_283 : Cond.instanceMethod ⟨"WaveRows", "advance", "(J)I"⟩ ∈ allw := allw_of 299 (by decide +kernel) (by decide +kernel)
theorem kw_284 : Cond.selects "WaveRows" ⟨"WaveRows", "advance", "(J)I"⟩ ⟨"WaveRows", "advance", "(J)I"⟩ ∈ allw := allw_of 300 (by decide +kernel) (by decide +kernel)
theorem kw_285 : Cond.code ⟨"WaveRows", "advance", "(J)I"⟩ prog_1_method_6_code 8 (some .int) ∈ allw := allw_of 301 (by decide +kernel) (by decide +kernel)
theorem kw_287 : Cond.methodLink "WaveRowsLaw" 98 ⟨"WaveRowsLaw", "value", "(LWaveRows;I[J)I"⟩ ∈ allw := allw_of 303 (by decide +kernel) (by decide +kernel)
theorem kw_288 : Cond.static ⟨"WaveRowsLaw", "value", "(LWaveRows;I[J)I"⟩ ∈ allw := allw_of 304 (by decide +kernel) (by decide +kernel)
theorem kw_289 : Cond.codeWith ⟨"WaveRowsLaw", "value", "(LWaveRows;I[J)I"⟩ method_7_code 4 (some .int) [(0, 8, 11, 21)] ∈ allw := allw_of 305 (by decide +kernel) (by decide +kernel)
theorem kw_290 : Cond.methodLink "WaveRowsLaw" 31 ⟨"WaveRows", "value", "(I)J"⟩ ∈ allw := allw_of 306 (by decide +kernel) (by decide +kernel)
theorem kw_291 : Cond.instanceMethod ⟨"WaveRows", "value", "(I)J"⟩ ∈ allw := allw_of 307 (by decide +kernel) (by decide +kernel)
theorem kw_292 : Cond.selects "WaveRows" ⟨"WaveRows", "value", "(I)J"⟩ ⟨"WaveRows", "value", "(I)J"⟩ ∈ allw := allw_of 308 (by decide +kernel) (by decide +kernel)
theorem kw_293 : Cond.code ⟨"WaveRows", "value", "(I)J"⟩ prog_1_method_10_code 2 (some .long) ∈ allw := allw_of 309 (by decide +kernel) (by decide +kernel)
theorem kw_294 : Cond.methodLink "WaveRowsLaw" 102 ⟨"WaveRowsLaw", "count", "(LWaveRows;I[J)I"⟩ ∈ allw := allw_of 310 (by decide +kernel) (by decide +kernel)
theorem kw_295 : Cond.static ⟨"WaveRowsLaw", "count", "(LWaveRows;I[J)I"⟩ ∈ allw := allw_of 311 (by decide +kernel) (by decide +kernel)
theorem kw_296 : Cond.codeWith ⟨"WaveRowsLaw", "count", "(LWaveRows;I[J)I"⟩ method_8_code 4 (some .int) [(0, 9, 12, 21)] ∈ allw := allw_of 312 (by decide +kernel) (by decide +kernel)
theorem kw_297 : Cond.methodLink "WaveRowsLaw" 35 ⟨"WaveRows", "count", "(I)I"⟩ ∈ allw := allw_of 313 (by decide +kernel) (by decide +kernel)
theorem kw_298 : Cond.instanceMethod ⟨"WaveRows", "count", "(I)I"⟩ ∈ allw := allw_of 314 (by decide +kernel) (by decide +kernel)
theorem kw_299 : Cond.selects "WaveRows" ⟨"WaveRows", "count", "(I)I"⟩ ⟨"WaveRows", "count", "(I)I"⟩ ∈ allw := allw_of 315 (by decide +kernel) (by decide +kernel)
theorem kw_300 : Cond.code ⟨"WaveRows", "count", "(I)I"⟩ prog_1_method_11_code 2 (some .int) ∈ allw := allw_of 316 (by decide +kernel) (by decide +kernel)
theorem kw_301 : Cond.methodLink "WaveRowsLaw" 105 ⟨"WaveRowsLaw", "at", "(LWaveRows;IIZ[J)I"⟩ ∈ allw := allw_of 317 (by decide +kernel) (by decide +kernel)
theorem kw_302 : Cond.static ⟨"WaveRowsLaw", "at", "(LWaveRows;IIZ[J)I"⟩ ∈ allw := allw_of 318 (by decide +kernel) (by decide +kernel)
theorem kw_303 : Cond.codeWith ⟨"WaveRowsLaw", "at", "(LWaveRows;IIZ[J)I"⟩ method_9_code 6 (some .int) [(0, 11, 14, 21)] ∈ allw := allw_of 319 (by decide +kernel) (by decide +kernel)
theorem kw_304 : Cond.methodLink "WaveRowsLaw" 39 ⟨"WaveRows", "at", "(IIZ)J"⟩ ∈ allw := allw_of 320 (by decide +kernel) (by decide +kernel)
theorem kw_305 : Cond.instanceMethod ⟨"WaveRows", "at", "(IIZ)J"⟩ ∈ allw := allw_of 321 (by decide +kernel) (by decide +kernel)
theorem kw_306 : Cond.selects "WaveRows" ⟨"WaveRows", "at", "(IIZ)J"⟩ ⟨"WaveRows", "at", "(IIZ)J"⟩ ∈ allw := allw_of 322 (by decide +kernel) (by decide +kernel)
theorem kw_307 : Cond.code ⟨"WaveRows", "at", "(IIZ)J"⟩ prog_1_method_12_code 5 (some .long) ∈ allw := allw_of 323 (by decide +kernel) (by decide +kernel)
theorem kw_309 : Cond.methodLink "WaveRowsLaw" 109 ⟨"WaveRowsLaw", "projected", "(LWaveRows;IJ[J)I"⟩ ∈ allw := allw_of 325 (by decide +kernel) (by decide +kernel)
theorem kw_310 : Cond.static ⟨"WaveRowsLaw", "projected", "(LWaveRows;IJ[J)I"⟩ ∈ allw := allw_of 326 (by decide +kernel) (by decide +kernel)
theorem kw_311 : Cond.codeWith ⟨"WaveRowsLaw", "projected", "(LWaveRows;IJ[J)I"⟩ method_10_code 6 (some .int) [(0, 10, 13, 21), (0, 10, 17, 13)] ∈ allw := allw_of 327 (by decide +kernel) (by decide +kernel)
theorem kw_312 : Cond.methodLink "WaveRowsLaw" 43 ⟨"WaveRows", "projected", "(IJ)J"⟩ ∈ allw := allw_of 328 (by decide +kernel) (by decide +kernel)
theorem kw_313 : Cond.instanceMethod ⟨"WaveRows", "projected", "(IJ)J"⟩ ∈ allw := allw_of 329 (by decide +kernel) (by decide +kernel)
theorem kw_314 : Cond.selects "WaveRows" ⟨"WaveRows", "projected", "(IJ)J"⟩ ⟨"WaveRows", "projected", "(IJ)J"⟩ ∈ allw := allw_of 330 (by decide +kernel) (by decide +kernel)
theorem kw_315 : Cond.code ⟨"WaveRows", "projected", "(IJ)J"⟩ prog_1_method_13_code 6 (some .long) ∈ allw := allw_of 331 (by decide +kernel) (by decide +kernel)
theorem kw_317 : Cond.classLink "WaveRowsLaw" 56 "WaveRowsModel" ∈ allw := allw_of 333 (by decide +kernel) (by decide +kernel)
theorem kw_318 : Cond.instantiable "WaveRowsModel" 16 ∈ allw := allw_of 334 (by decide +kernel) (by decide +kernel)
theorem kw_319 : Cond.methodLink "WaveRowsLaw" 58 ⟨"WaveRowsModel", "<init>", "(II)V"⟩ ∈ allw := allw_of 335 (by decide +kernel) (by decide +kernel)
theorem kw_320 : Cond.instanceMethod ⟨"WaveRowsModel", "<init>", "(II)V"⟩ ∈ allw := allw_of 336 (by decide +kernel) (by decide +kernel)
theorem kw_321 : Cond.code ⟨"WaveRowsModel", "<init>", "(II)V"⟩ prog_3_method_1_code 3 none ∈ allw := allw_of 337 (by decide +kernel) (by decide +kernel)
theorem kw_322 : Cond.methodLink "WaveRowsModel" 1 ⟨"java/lang/Object", "<init>", "()V"⟩ ∈ allw := allw_of 338 (by decide +kernel) (by decide +kernel)
theorem kw_323 : Cond.fieldLink "WaveRowsModel" 49 "WaveRowsModel" "thrown" "I" ∈ allw := allw_of 339 (by decide +kernel) (by decide +kernel)
theorem kw_324 : Cond.fieldLink "WaveRowsModel" 42 "WaveRowsModel" "drivers" "I" ∈ allw := allw_of 340 (by decide +kernel) (by decide +kernel)
theorem kw_325 : Cond.fieldLink "WaveRowsModel" 46 "WaveRowsModel" "room" "I" ∈ allw := allw_of 341 (by decide +kernel) (by decide +kernel)
theorem kw_326 : Cond.fieldLink "WaveRowsModel" 7 "WaveRowsModel" "values" "[J" ∈ allw := allw_of 342 (by decide +kernel) (by decide +kernel)
theorem kw_327 : Cond.fieldLink "WaveRowsModel" 13 "WaveRowsModel" "active" "[Z" ∈ allw := allw_of 343 (by decide +kernel) (by decide +kernel)
theorem kw_328 : Cond.fieldLink "WaveRowsModel" 68 "WaveRowsModel" "now" "J" ∈ allw := allw_of 344 (by decide +kernel) (by decide +kernel)
theorem kw_329 : Cond.fieldLink "WaveRowsModel" 17 "WaveRowsModel" "owners" "[I" ∈ allw := allw_of 345 (by decide +kernel) (by decide +kernel)
theorem kw_330 : Cond.fieldLink "WaveRowsModel" 21 "WaveRowsModel" "times" "[J" ∈ allw := allw_of 346 (by decide +kernel) (by decide +kernel)
theorem kw_331 : Cond.fieldLink "WaveRowsModel" 24 "WaveRowsModel" "what" "[J" ∈ allw := allw_of 347 (by decide +kernel) (by decide +kernel)
theorem kw_332 : Cond.fieldLink "WaveRowsModel" 57 "WaveRowsModel" "size" "I" ∈ allw := allw_of 348 (by decide +kernel) (by decide +kernel)
theorem kw_333 : Cond.fieldLink "WaveRowsModel" 27 "WaveRowsModel" "newValues" "[J" ∈ allw := allw_of 349 (by decide +kernel) (by decide +kernel)
theorem kw_334 : Cond.fieldLink "WaveRowsModel" 30 "WaveRowsModel" "delays" "[J" ∈ allw := allw_of 350 (by decide +kernel) (by decide +kernel)
theorem kw_335 : Cond.fieldLink "WaveRowsModel" 54 "WaveRowsModel" "elements" "I" ∈ allw := allw_of 351 (by decide +kernel) (by decide +kernel)
theorem kw_336 : Cond.fieldLink "WaveRowsModel" 33 "WaveRowsModel" "rowTimes" "[J" ∈ allw := allw_of 352 (by decide +kernel) (by decide +kernel)
theorem kw_337 : Cond.fieldLink "WaveRowsModel" 36 "WaveRowsModel" "rowValues" "[J" ∈ allw := allw_of 353 (by decide +kernel) (by decide +kernel)
theorem kw_338 : Cond.fieldLink "WaveRowsModel" 39 "WaveRowsModel" "marked" "[Z" ∈ allw := allw_of 354 (by decide +kernel) (by decide +kernel)
theorem kw_372 : Cond.arrayClass .boolean ∈ allw := allw_of 388 (by decide +kernel) (by decide +kernel)
theorem kw_373 : Cond.methodLink "WaveRowsLaw" 65 ⟨"WaveRowsModel", "thrown", "()I"⟩ ∈ allw := allw_of 389 (by decide +kernel) (by decide +kernel)
theorem kw_374 : Cond.instanceMethod ⟨"WaveRowsModel", "thrown", "()I"⟩ ∈ allw := allw_of 390 (by decide +kernel) (by decide +kernel)
theorem kw_375 : Cond.selects "WaveRowsModel" ⟨"WaveRowsModel", "thrown", "()I"⟩ ⟨"WaveRowsModel", "thrown", "()I"⟩ ∈ allw := allw_of 391 (by decide +kernel) (by decide +kernel)
theorem kw_376 : Cond.code ⟨"WaveRowsModel", "thrown", "()I"⟩ prog_3_method_2_code 1 (some .int) ∈ allw := allw_of 392 (by decide +kernel) (by decide +kernel)
theorem kw_377 : Cond.methodLink "WaveRowsLaw" 64 ⟨"WaveRowsModel", "element", "(JJ)V"⟩ ∈ allw := allw_of 393 (by decide +kernel) (by decide +kernel)
theorem kw_378 : Cond.instanceMethod ⟨"WaveRowsModel", "element", "(JJ)V"⟩ ∈ allw := allw_of 394 (by decide +kernel) (by decide +kernel)
theorem kw_379 : Cond.selects "WaveRowsModel" ⟨"WaveRowsModel", "element", "(JJ)V"⟩ ⟨"WaveRowsModel", "element", "(JJ)V"⟩ ∈ allw := allw_of 395 (by decide +kernel) (by decide +kernel)
theorem kw_380 : Cond.code ⟨"WaveRowsModel", "element", "(JJ)V"⟩ prog_3_method_4_code 5 none ∈ allw := allw_of 396 (by decide +kernel) (by decide +kernel)
theorem kw_381 : Cond.constantLong "WaveRowsModel" 52 1152921504606846976 ∈ allw := allw_of 397 (by decide +kernel) (by decide +kernel)
theorem kw_382 : Cond.methodLink "WaveRowsLaw" 72 ⟨"WaveRowsModel", "drop", "()I"⟩ ∈ allw := allw_of 398 (by decide +kernel) (by decide +kernel)
theorem kw_383 : Cond.instanceMethod ⟨"WaveRowsModel", "drop", "()I"⟩ ∈ allw := allw_of 399 (by decide +kernel) (by decide +kernel)
theorem kw_384 : Cond.selects "WaveRowsModel" ⟨"WaveRowsModel", "drop", "()I"⟩ ⟨"WaveRowsModel", "drop", "()I"⟩ ∈ allw := allw_of 400 (by decide +kernel) (by decide +kernel)
theorem kw_385 : Cond.code ⟨"WaveRowsModel", "drop", "()I"⟩ prog_3_method_5_code 2 (some .int) ∈ allw := allw_of 401 (by decide +kernel) (by decide +kernel)
theorem kw_386 : Cond.methodLink "WaveRowsLaw" 76 ⟨"WaveRowsModel", "assign", "(IIJ)I"⟩ ∈ allw := allw_of 402 (by decide +kernel) (by decide +kernel)
theorem kw_387 : Cond.instanceMethod ⟨"WaveRowsModel", "assign", "(IIJ)I"⟩ ∈ allw := allw_of 403 (by decide +kernel) (by decide +kernel)
theorem kw_388 : Cond.selects "WaveRowsModel" ⟨"WaveRowsModel", "assign", "(IIJ)I"⟩ ⟨"WaveRowsModel", "assign", "(IIJ)I"⟩ ∈ allw := allw_of 404 (by decide +kernel) (by decide +kernel)
theorem kw_389 : Cond.code ⟨"WaveRowsModel", "assign", "(IIJ)I"⟩ prog_3_method_8_code 13 (some .int) ∈ allw := allw_of 405 (by decide +kernel) (by decide +kernel)
theorem kw_390 : Cond.methodLink "WaveRowsModel" 60 ⟨"WaveRowsModel", "none", "(I)Z"⟩ ∈ allw := allw_of 406 (by decide +kernel) (by decide +kernel)
theorem kw_392 : Cond.instanceMethod ⟨"WaveRowsModel", "none", "(I)Z"⟩ ∈ allw := allw_of 408 (by decide +kernel) (by decide +kernel)
theorem kw_393 : Cond.code ⟨"WaveRowsModel", "none", "(I)Z"⟩ prog_3_method_3_code 2 (some .boolean) ∈ allw := allw_of 409 (by decide +kernel) (by decide +kernel)
theorem kw_394 : Cond.methodLink "WaveRowsModel" 64 ⟨"WaveRowsModel", "rises", "()Z"⟩ ∈ allw := allw_of 410 (by decide +kernel) (by decide +kernel)
theorem kw_396 : Cond.instanceMethod ⟨"WaveRowsModel", "rises", "()Z"⟩ ∈ allw := allw_of 412 (by decide +kernel) (by decide +kernel)
theorem kw_397 : Cond.code ⟨"WaveRowsModel", "rises", "()Z"⟩ prog_3_method_6_code 3 (some .boolean) ∈ allw := allw_of 413 (by decide +kernel) (by decide +kernel)
theorem kw_398 : Cond.methodLink "WaveRowsModel" 72 ⟨"WaveRowsModel", "replace", "(II)V"⟩ ∈ allw := allw_of 414 (by decide +kernel) (by decide +kernel)
theorem kw_400 : Cond.instanceMethod ⟨"WaveRowsModel", "replace", "(II)V"⟩ ∈ allw := allw_of 416 (by decide +kernel) (by decide +kernel)
theorem kw_401 : Cond.code ⟨"WaveRowsModel", "replace", "(II)V"⟩ prog_3_method_7_code 5 none ∈ allw := allw_of 417 (by decide +kernel) (by decide +kernel)
theorem kw_402 : Cond.methodLink "WaveRowsLaw" 80 ⟨"WaveRowsModel", "start", "(IJ)I"⟩ ∈ allw := allw_of 418 (by decide +kernel) (by decide +kernel)
theorem kw_403 : Cond.instanceMethod ⟨"WaveRowsModel", "start", "(IJ)I"⟩ ∈ allw := allw_of 419 (by decide +kernel) (by decide +kernel)
theorem kw_404 : Cond.selects "WaveRowsModel" ⟨"WaveRowsModel", "start", "(IJ)I"⟩ ⟨"WaveRowsModel", "start", "(IJ)I"⟩ ∈ allw := allw_of 420 (by decide +kernel) (by decide +kernel)
theorem kw_405 : Cond.code ⟨"WaveRowsModel", "start", "(IJ)I"⟩ prog_3_method_9_code 5 (some .int) ∈ allw := allw_of 421 (by decide +kernel) (by decide +kernel)
theorem kw_406 : Cond.methodLink "WaveRowsLaw" 84 ⟨"WaveRowsModel", "advance", "(J)I"⟩ ∈ allw := allw_of 422 (by decide +kernel) (by decide +kernel)
theorem kw_407 : Cond.instanceMethod ⟨"WaveRowsModel", "advance", "(J)I"⟩ ∈ allw := allw_of 423 (by decide +kernel) (by decide +kernel)
theorem kw_408 : Cond.selects "WaveRowsModel" ⟨"WaveRowsModel", "advance", "(J)I"⟩ ⟨"WaveRowsModel", "advance", "(J)I"⟩ ∈ allw := allw_of 424 (by decide +kernel) (by decide +kernel)
theorem kw_409 : Cond.code ⟨"WaveRowsModel", "advance", "(J)I"⟩ prog_3_method_10_code 6 (some .int) ∈ allw := allw_of 425 (by decide +kernel) (by decide +kernel)
theorem kw_410 : Cond.methodLink "WaveRowsLaw" 88 ⟨"WaveRowsModel", "active", "(I)I"⟩ ∈ allw := allw_of 426 (by decide +kernel) (by decide +kernel)
theorem kw_411 : Cond.instanceMethod ⟨"WaveRowsModel", "active", "(I)I"⟩ ∈ allw := allw_of 427 (by decide +kernel) (by decide +kernel)
theorem kw_412 : Cond.selects "WaveRowsModel" ⟨"WaveRowsModel", "active", "(I)I"⟩ ⟨"WaveRowsModel", "active", "(I)I"⟩ ∈ allw := allw_of 428 (by decide +kernel) (by decide +kernel)
theorem kw_413 : Cond.code ⟨"WaveRowsModel", "active", "(I)I"⟩ prog_3_method_11_code 4 (some .int) ∈ allw := allw_of 429 (by decide +kernel) (by decide +kernel)
theorem kw_414 : Cond.methodLink "WaveRowsLaw" 93 ⟨"WaveRowsModel", "now", "()J"⟩ ∈ allw := allw_of 430 (by decide +kernel) (by decide +kernel)
theorem kw_415 : Cond.instanceMethod ⟨"WaveRowsModel", "now", "()J"⟩ ∈ allw := allw_of 431 (by decide +kernel) (by decide +kernel)
theorem kw_416 : Cond.selects "WaveRowsModel" ⟨"WaveRowsModel", "now", "()J"⟩ ⟨"WaveRowsModel", "now", "()J"⟩ ∈ allw := allw_of 432 (by decide +kernel) (by decide +kernel)
theorem kw_417 : Cond.code ⟨"WaveRowsModel", "now", "()J"⟩ prog_3_method_12_code 1 (some .long) ∈ allw := allw_of 433 (by decide +kernel) (by decide +kernel)
theorem kw_418 : Cond.methodLink "WaveRowsLaw" 97 ⟨"WaveRowsModel", "next", "()J"⟩ ∈ allw := allw_of 434 (by decide +kernel) (by decide +kernel)
theorem kw_419 : Cond.instanceMethod ⟨"WaveRowsModel", "next", "()J"⟩ ∈ allw := allw_of 435 (by decide +kernel) (by decide +kernel)
theorem kw_420 : Cond.selects "WaveRowsModel" ⟨"WaveRowsModel", "next", "()J"⟩ ⟨"WaveRowsModel", "next", "()J"⟩ ∈ allw := allw_of 436 (by decide +kernel) (by decide +kernel)
theorem kw_421 : Cond.code ⟨"WaveRowsModel", "next", "()J"⟩ prog_3_method_13_code 4 (some .long) ∈ allw := allw_of 437 (by decide +kernel) (by decide +kernel)
theorem kw_422 : Cond.constantLong "WaveRowsModel" 76 (-1) ∈ allw := allw_of 438 (by decide +kernel) (by decide +kernel)
theorem kw_423 : Cond.methodLink "WaveRowsLaw" 101 ⟨"WaveRowsModel", "value", "(I)J"⟩ ∈ allw := allw_of 439 (by decide +kernel) (by decide +kernel)
theorem kw_424 : Cond.instanceMethod ⟨"WaveRowsModel", "value", "(I)J"⟩ ∈ allw := allw_of 440 (by decide +kernel) (by decide +kernel)
theorem kw_425 : Cond.selects "WaveRowsModel" ⟨"WaveRowsModel", "value", "(I)J"⟩ ⟨"WaveRowsModel", "value", "(I)J"⟩ ∈ allw := allw_of 441 (by decide +kernel) (by decide +kernel)
theorem kw_426 : Cond.code ⟨"WaveRowsModel", "value", "(I)J"⟩ prog_3_method_14_code 2 (some .long) ∈ allw := allw_of 442 (by decide +kernel) (by decide +kernel)
theorem kw_427 : Cond.methodLink "WaveRowsLaw" 104 ⟨"WaveRowsModel", "count", "(I)I"⟩ ∈ allw := allw_of 443 (by decide +kernel) (by decide +kernel)
theorem kw_428 : Cond.instanceMethod ⟨"WaveRowsModel", "count", "(I)I"⟩ ∈ allw := allw_of 444 (by decide +kernel) (by decide +kernel)
theorem kw_429 : Cond.selects "WaveRowsModel" ⟨"WaveRowsModel", "count", "(I)I"⟩ ⟨"WaveRowsModel", "count", "(I)I"⟩ ∈ allw := allw_of 445 (by decide +kernel) (by decide +kernel)
theorem kw_430 : Cond.code ⟨"WaveRowsModel", "count", "(I)I"⟩ prog_3_method_16_code 4 (some .int) ∈ allw := allw_of 446 (by decide +kernel) (by decide +kernel)
theorem kw_431 : Cond.methodLink "WaveRowsLaw" 108 ⟨"WaveRowsModel", "at", "(IIZ)J"⟩ ∈ allw := allw_of 447 (by decide +kernel) (by decide +kernel)
theorem kw_432 : Cond.instanceMethod ⟨"WaveRowsModel", "at", "(IIZ)J"⟩ ∈ allw := allw_of 448 (by decide +kernel) (by decide +kernel)
theorem kw_433 : Cond.selects "WaveRowsModel" ⟨"WaveRowsModel", "at", "(IIZ)J"⟩ ⟨"WaveRowsModel", "at", "(IIZ)J"⟩ ∈ allw := allw_of 449 (by decide +kernel) (by decide +kernel)
theorem kw_434 : Cond.code ⟨"WaveRowsModel", "at", "(IIZ)J"⟩ prog_3_method_17_code 5 (some .long) ∈ allw := allw_of 450 (by decide +kernel) (by decide +kernel)
theorem kw_435 : Cond.methodLink "WaveRowsModel" 78 ⟨"WaveRowsModel", "find", "(II)I"⟩ ∈ allw := allw_of 451 (by decide +kernel) (by decide +kernel)
theorem kw_437 : Cond.instanceMethod ⟨"WaveRowsModel", "find", "(II)I"⟩ ∈ allw := allw_of 453 (by decide +kernel) (by decide +kernel)
theorem kw_438 : Cond.code ⟨"WaveRowsModel", "find", "(II)I"⟩ prog_3_method_15_code 5 (some .int) ∈ allw := allw_of 454 (by decide +kernel) (by decide +kernel)
theorem kw_439 : Cond.methodLink "WaveRowsLaw" 111 ⟨"WaveRowsModel", "projected", "(IJ)J"⟩ ∈ allw := allw_of 455 (by decide +kernel) (by decide +kernel)
theorem kw_440 : Cond.instanceMethod ⟨"WaveRowsModel", "projected", "(IJ)J"⟩ ∈ allw := allw_of 456 (by decide +kernel) (by decide +kernel)
theorem kw_441 : Cond.selects "WaveRowsModel" ⟨"WaveRowsModel", "projected", "(IJ)J"⟩ ⟨"WaveRowsModel", "projected", "(IJ)J"⟩ ∈ allw := allw_of 457 (by decide +kernel) (by decide +kernel)
theorem kw_442 : Cond.code ⟨"WaveRowsModel", "projected", "(IJ)J"⟩ prog_3_method_18_code 7 (some .long) ∈ allw := allw_of 458 (by decide +kernel) (by decide +kernel)
theorem kw_443 : Cond.methodLink "WaveRowsLaw" 115 ⟨"WaveRowsModel", "total", "()I"⟩ ∈ allw := allw_of 459 (by decide +kernel) (by decide +kernel)
theorem kw_444 : Cond.instanceMethod ⟨"WaveRowsModel", "total", "()I"⟩ ∈ allw := allw_of 460 (by decide +kernel) (by decide +kernel)
theorem kw_445 : Cond.selects "WaveRowsModel" ⟨"WaveRowsModel", "total", "()I"⟩ ⟨"WaveRowsModel", "total", "()I"⟩ ∈ allw := allw_of 461 (by decide +kernel) (by decide +kernel)
theorem kw_446 : Cond.code ⟨"WaveRowsModel", "total", "()I"⟩ prog_3_method_19_code 1 (some .int) ∈ allw := allw_of 462 (by decide +kernel) (by decide +kernel)
theorem kw_447 : Cond.constantLong "WaveRowsLaw" 59 4294967295 ∈ allw := allw_of 463 (by decide +kernel) (by decide +kernel)
abbrev cX0_init : ByteArray := prog_1_method_1_code
def yX0_init : MethodName := ⟨RX0, "<init>", "(II)V"⟩
def wsX0_init : List Cond := .code yX0_init cX0_init 4 none :: allw
abbrev cX0_drop : ByteArray := prog_1_method_3_code
def yX0_drop : MethodName := ⟨RX0, "drop", "()I"⟩
def wsX0_drop : List Cond := .code yX0_drop cX0_drop 2 (some .int) :: allw
abbrev cX0_active : ByteArray := prog_1_method_7_code
def yX0_active : MethodName := ⟨RX0, "active", "(I)I"⟩
def wsX0_active : List Cond := .code yX0_active cX0_active 2 (some .int) :: allw
abbrev cX0_now : ByteArray := prog_1_method_8_code
def yX0_now : MethodName := ⟨RX0, "now", "()J"⟩
def wsX0_now : List Cond := .code yX0_now cX0_now 1 (some .long) :: allw
abbrev cX0_next : ByteArray := prog_1_method_9_code
def yX0_next : MethodName := ⟨RX0, "next", "()J"⟩
def wsX0_next : List Cond := .code yX0_next cX0_next 6 (some .long) :: allw
abbrev cX0_rowLength : ByteArray := prog_1_method_19_code
def yX0_rowLength : MethodName := ⟨RX0, "rowLength", "(I)I"⟩
def wsX0_rowLength : List Cond := .code yX0_rowLength cX0_rowLength 2 (some .int) :: allw
abbrev cX0_total : ByteArray := prog_1_method_14_code
def yX0_total : MethodName := ⟨RX0, "total", "()I"⟩
def wsX0_total : List Cond := .code yX0_total cX0_total 1 (some .int) :: allw
abbrev cL_cell : ByteArray := method_2_code
def yL_cell : MethodName := ⟨RL, "cell", "([II)I"⟩
def wsL_cell : List Cond := .code yL_cell cL_cell 2 (some .int) :: allw
abbrev cL_element : ByteArray := method_3_code
def yL_element : MethodName := ⟨RL, "element", "(LWaveRows;JJ)I"⟩
def hhL_element : List (Nat × Nat × Nat × Nat) := [(0, 6, 9, 13), (0, 6, 13, 15)]
def wsL_element : List Cond := .codeWith yL_element cL_element 6 (some .int) hhL_element :: allw
abbrev cX0_element : ByteArray := prog_1_method_2_code
def yX0_element : MethodName := ⟨RX0, "element", "(JJ)V"⟩
def wsX0_element : List Cond := .code yX0_element cX0_element 5 none :: allw
abbrev cL_assign : ByteArray := method_4_code
def yL_assign : MethodName := ⟨RL, "assign", "(LWaveRows;IIJ[J)I"⟩
def hhL_assign : List (Nat × Nat × Nat × Nat) := [(0, 12, 15, 21), (0, 12, 19, 15), (0, 12, 23, 13)]
def wsL_assign : List Cond := .codeWith yL_assign cL_assign 7 (some .int) hhL_assign :: allw
abbrev cX0_assign : ByteArray := prog_1_method_4_code
def yX0_assign : MethodName := ⟨RX0, "assign", "(IIJ)I"⟩
def wsX0_assign : List Cond := .code yX0_assign cX0_assign 14 (some .int) :: allw
abbrev cX0_requireDriver : ByteArray := prog_1_method_15_code
def yX0_requireDriver : MethodName := ⟨RX0, "requireDriver", "(I)V"⟩
def wsX0_requireDriver : List Cond := .code yX0_requireDriver cX0_requireDriver 2 none :: allw
abbrev cX0_isLimitGood : ByteArray := prog_1_method_16_code
def yX0_isLimitGood : MethodName := ⟨RX0, "isLimitGood", "(IJ)Z"⟩
def wsX0_isLimitGood : List Cond := .code yX0_isLimitGood cX0_isLimitGood 4 (some .boolean) :: allw
abbrev cX0_areDelaysGood : ByteArray := prog_1_method_17_code
def yX0_areDelaysGood : MethodName := ⟨RX0, "areDelaysGood", "()Z"⟩
def wsX0_areDelaysGood : List Cond := .code yX0_areDelaysGood cX0_areDelaysGood 4 (some .boolean) :: allw
abbrev cX0_firstBehind : ByteArray := prog_1_method_20_code
def yX0_firstBehind : MethodName := ⟨RX0, "firstBehind", "(IIJ)I"⟩
def wsX0_firstBehind : List Cond := .code yX0_firstBehind cX0_firstBehind 6 (some .int) :: allw
abbrev cX0_limitOf : ByteArray := prog_1_method_18_code
def yX0_limitOf : MethodName := ⟨RX0, "limitOf", "(IJ)J"⟩
def wsX0_limitOf : List Cond := .code yX0_limitOf cX0_limitOf 4 (some .long) :: allw
abbrev cX0_startOfSameValues : ByteArray := prog_1_method_21_code
def yX0_startOfSameValues : MethodName := ⟨RX0, "startOfSameValues", "(IIJ)I"⟩
def wsX0_startOfSameValues : List Cond := .code yX0_startOfSameValues cX0_startOfSameValues 6 (some .int) :: allw
abbrev cX0_moveTransactions : ByteArray := prog_1_method_22_code
def yX0_moveTransactions : MethodName := ⟨RX0, "moveTransactions", "(III)V"⟩
def wsX0_moveTransactions : List Cond := .code yX0_moveTransactions cX0_moveTransactions 4 none :: allw
abbrev cX0_endRowAt : ByteArray := prog_1_method_23_code
def yX0_endRowAt : MethodName := ⟨RX0, "endRowAt", "(II)V"⟩
def wsX0_endRowAt : List Cond := .code yX0_endRowAt cX0_endRowAt 7 none :: allw
abbrev cX0_makePlaces : ByteArray := prog_1_method_24_code
def yX0_makePlaces : MethodName := ⟨RX0, "makePlaces", "(I)V"⟩
def wsX0_makePlaces : List Cond := .code yX0_makePlaces cX0_makePlaces 3 none :: allw
abbrev cJ7_copyOf : ByteArray := prog_14_method_124_code
def yJ7_copyOf : MethodName := ⟨RJ7, "copyOf", "([JI)[J"⟩
def wsJ7_copyOf : List Cond := .code yJ7_copyOf cJ7_copyOf 3 (some (.array .long)) :: allw
abbrev cX0_writeElements : ByteArray := prog_1_method_25_code
def yX0_writeElements : MethodName := ⟨RX0, "writeElements", "(I)V"⟩
def wsX0_writeElements : List Cond := .code yX0_writeElements cX0_writeElements 3 none :: allw
abbrev cL_start : ByteArray := method_5_code
def yL_start : MethodName := ⟨RL, "start", "(LWaveRows;IJ[J)I"⟩
def hhL_start : List (Nat × Nat × Nat × Nat) := [(0, 11, 14, 21)]
def wsL_start : List Cond := .codeWith yL_start cL_start 6 (some .int) hhL_start :: allw
abbrev cX0_start : ByteArray := prog_1_method_5_code
def yX0_start : MethodName := ⟨RX0, "start", "(IJ)I"⟩
def wsX0_start : List Cond := .code yX0_start cX0_start 5 (some .int) :: allw
abbrev cL_advance : ByteArray := method_6_code
def yL_advance : MethodName := ⟨RL, "advance", "(LWaveRows;J[J)I"⟩
def hhL_advance : List (Nat × Nat × Nat × Nat) := [(0, 9, 12, 13)]
def wsL_advance : List Cond := .codeWith yL_advance cL_advance 5 (some .int) hhL_advance :: allw
abbrev cX0_advance : ByteArray := prog_1_method_6_code
def yX0_advance : MethodName := ⟨RX0, "advance", "(J)I"⟩
def wsX0_advance : List Cond := .code yX0_advance cX0_advance 8 (some .int) :: allw
abbrev cL_value : ByteArray := method_7_code
def yL_value : MethodName := ⟨RL, "value", "(LWaveRows;I[J)I"⟩
def hhL_value : List (Nat × Nat × Nat × Nat) := [(0, 8, 11, 21)]
def wsL_value : List Cond := .codeWith yL_value cL_value 4 (some .int) hhL_value :: allw
abbrev cX0_value : ByteArray := prog_1_method_10_code
def yX0_value : MethodName := ⟨RX0, "value", "(I)J"⟩
def wsX0_value : List Cond := .code yX0_value cX0_value 2 (some .long) :: allw
abbrev cL_count : ByteArray := method_8_code
def yL_count : MethodName := ⟨RL, "count", "(LWaveRows;I[J)I"⟩
def hhL_count : List (Nat × Nat × Nat × Nat) := [(0, 9, 12, 21)]
def wsL_count : List Cond := .codeWith yL_count cL_count 4 (some .int) hhL_count :: allw
abbrev cX0_count : ByteArray := prog_1_method_11_code
def yX0_count : MethodName := ⟨RX0, "count", "(I)I"⟩
def wsX0_count : List Cond := .code yX0_count cX0_count 2 (some .int) :: allw
abbrev cL_at : ByteArray := method_9_code
def yL_at : MethodName := ⟨RL, "at", "(LWaveRows;IIZ[J)I"⟩
def hhL_at : List (Nat × Nat × Nat × Nat) := [(0, 11, 14, 21)]
def wsL_at : List Cond := .codeWith yL_at cL_at 6 (some .int) hhL_at :: allw
abbrev cX0_at : ByteArray := prog_1_method_12_code
def yX0_at : MethodName := ⟨RX0, "at", "(IIZ)J"⟩
def wsX0_at : List Cond := .code yX0_at cX0_at 5 (some .long) :: allw
abbrev cL_projected : ByteArray := method_10_code
def yL_projected : MethodName := ⟨RL, "projected", "(LWaveRows;IJ[J)I"⟩
def hhL_projected : List (Nat × Nat × Nat × Nat) := [(0, 10, 13, 21), (0, 10, 17, 13)]
def wsL_projected : List Cond := .codeWith yL_projected cL_projected 6 (some .int) hhL_projected :: allw
abbrev cX0_projected : ByteArray := prog_1_method_13_code
def yX0_projected : MethodName := ⟨RX0, "projected", "(IJ)J"⟩
def wsX0_projected : List Cond := .code yX0_projected cX0_projected 6 (some .long) :: allw
abbrev cX1_init : ByteArray := prog_3_method_1_code
def yX1_init : MethodName := ⟨RX1, "<init>", "(II)V"⟩
def wsX1_init : List Cond := .code yX1_init cX1_init 3 none :: allw
abbrev cX1_thrown : ByteArray := prog_3_method_2_code
def yX1_thrown : MethodName := ⟨RX1, "thrown", "()I"⟩
def wsX1_thrown : List Cond := .code yX1_thrown cX1_thrown 1 (some .int) :: allw
abbrev cX1_element : ByteArray := prog_3_method_4_code
def yX1_element : MethodName := ⟨RX1, "element", "(JJ)V"⟩
def wsX1_element : List Cond := .code yX1_element cX1_element 5 none :: allw
abbrev cX1_drop : ByteArray := prog_3_method_5_code
def yX1_drop : MethodName := ⟨RX1, "drop", "()I"⟩
def wsX1_drop : List Cond := .code yX1_drop cX1_drop 2 (some .int) :: allw
abbrev cX1_assign : ByteArray := prog_3_method_8_code
def yX1_assign : MethodName := ⟨RX1, "assign", "(IIJ)I"⟩
def wsX1_assign : List Cond := .code yX1_assign cX1_assign 13 (some .int) :: allw
abbrev cX1_none : ByteArray := prog_3_method_3_code
def yX1_none : MethodName := ⟨RX1, "none", "(I)Z"⟩
def wsX1_none : List Cond := .code yX1_none cX1_none 2 (some .boolean) :: allw
abbrev cX1_rises : ByteArray := prog_3_method_6_code
def yX1_rises : MethodName := ⟨RX1, "rises", "()Z"⟩
def wsX1_rises : List Cond := .code yX1_rises cX1_rises 3 (some .boolean) :: allw
abbrev cX1_replace : ByteArray := prog_3_method_7_code
def yX1_replace : MethodName := ⟨RX1, "replace", "(II)V"⟩
def wsX1_replace : List Cond := .code yX1_replace cX1_replace 5 none :: allw
abbrev cX1_start : ByteArray := prog_3_method_9_code
def yX1_start : MethodName := ⟨RX1, "start", "(IJ)I"⟩
def wsX1_start : List Cond := .code yX1_start cX1_start 5 (some .int) :: allw
abbrev cX1_advance : ByteArray := prog_3_method_10_code
def yX1_advance : MethodName := ⟨RX1, "advance", "(J)I"⟩
def wsX1_advance : List Cond := .code yX1_advance cX1_advance 6 (some .int) :: allw
abbrev cX1_active : ByteArray := prog_3_method_11_code
def yX1_active : MethodName := ⟨RX1, "active", "(I)I"⟩
def wsX1_active : List Cond := .code yX1_active cX1_active 4 (some .int) :: allw
abbrev cX1_now : ByteArray := prog_3_method_12_code
def yX1_now : MethodName := ⟨RX1, "now", "()J"⟩
def wsX1_now : List Cond := .code yX1_now cX1_now 1 (some .long) :: allw
abbrev cX1_next : ByteArray := prog_3_method_13_code
def yX1_next : MethodName := ⟨RX1, "next", "()J"⟩
def wsX1_next : List Cond := .code yX1_next cX1_next 4 (some .long) :: allw
abbrev cX1_value : ByteArray := prog_3_method_14_code
def yX1_value : MethodName := ⟨RX1, "value", "(I)J"⟩
def wsX1_value : List Cond := .code yX1_value cX1_value 2 (some .long) :: allw
abbrev cX1_count : ByteArray := prog_3_method_16_code
def yX1_count : MethodName := ⟨RX1, "count", "(I)I"⟩
def wsX1_count : List Cond := .code yX1_count cX1_count 4 (some .int) :: allw
abbrev cX1_at : ByteArray := prog_3_method_17_code
def yX1_at : MethodName := ⟨RX1, "at", "(IIZ)J"⟩
def wsX1_at : List Cond := .code yX1_at cX1_at 5 (some .long) :: allw
abbrev cX1_find : ByteArray := prog_3_method_15_code
def yX1_find : MethodName := ⟨RX1, "find", "(II)I"⟩
def wsX1_find : List Cond := .code yX1_find cX1_find 5 (some .int) :: allw
abbrev cX1_projected : ByteArray := prog_3_method_18_code
def yX1_projected : MethodName := ⟨RX1, "projected", "(IJ)J"⟩
def wsX1_projected : List Cond := .code yX1_projected cX1_projected 7 (some .long) :: allw
abbrev cX1_total : ByteArray := prog_3_method_19_code
def yX1_total : MethodName := ⟨RX1, "total", "()I"⟩
def wsX1_total : List Cond := .code yX1_total cX1_total 1 (some .int) :: allw
abbrev cL_law : ByteArray := code
def yL_law : MethodName := ⟨RL, "law", "([I)Z"⟩
end
section
theorem gL_69 : GoodIn allw (wsV RL 69 RX0 yX0_drop wsX0_drop) := gV kw_62 kw_63 kw_64 kw_1 kw_65
theorem gL_85 : GoodIn allw (wsV RL 85 RX0 yX0_active wsX0_active) := gV kw_66 kw_67 kw_68 kw_1 kw_69
theorem gL_89 : GoodIn allw (wsV RL 89 RX0 yX0_now wsX0_now) := gV kw_70 kw_71 kw_72 kw_1 kw_73
theorem gL_94 : GoodIn allw (wsV RL 94 RX0 yX0_next wsX0_next) := gV kw_74 kw_75 kw_76 kw_1 kw_77
theorem gX0_106 : GoodIn allw (wsV RX0 106 RX0 yX0_rowLength wsX0_rowLength) := gV kw_79 kw_81 kp_0 kw_1 kw_82
theorem gL_112 : GoodIn allw (wsV RL 112 RX0 yX0_total wsX0_total) := gV kw_86 kw_87 kw_88 kw_1 kw_89
theorem gL_47 : GoodIn allw (va_wsS RL 47 yL_cell wsL_cell) := gS kw_90 kw_91 kw_0 kw_92
theorem gL_7 : GoodIn allw (wsV RL 7 RX0 yX0_element wsX0_element) := gV kw_98 kw_99 kw_100 kw_1 kw_101
theorem gL_17 : GoodIn allw (wsV RL 17 RX0 yX0_assign wsX0_assign) := gV kw_191 kw_192 kw_193 kw_1 kw_194
theorem gX0_62 : GoodIn allw (wsV RX0 62 RX0 yX0_requireDriver wsX0_requireDriver) := gV kw_195 kw_197 kp_2 kw_1 kw_198
theorem gX0_68 : GoodIn allw (wsV RX0 68 RX0 yX0_isLimitGood wsX0_isLimitGood) := gV kw_216 kw_218 kp_3 kw_1 kw_219
theorem gX0_72 : GoodIn allw (wsV RX0 72 RX0 yX0_areDelaysGood wsX0_areDelaysGood) := gV kw_220 kw_222 kp_4 kw_1 kw_223
theorem gX0_82 : GoodIn allw (wsV RX0 82 RX0 yX0_firstBehind wsX0_firstBehind) := gV kw_225 kw_227 kp_5 kw_1 kw_228
theorem gX0_86 : GoodIn allw (wsV RX0 86 RX0 yX0_limitOf wsX0_limitOf) := gV kw_229 kw_231 kp_6 kw_1 kw_232
theorem gX0_90 : GoodIn allw (wsV RX0 90 RX0 yX0_startOfSameValues wsX0_startOfSameValues) := gV kw_233 kw_235 kp_7 kw_1 kw_236
theorem gX0_95 : GoodIn allw (wsV RX0 95 RX0 yX0_moveTransactions wsX0_moveTransactions) := gV kw_238 kw_240 kp_8 kw_1 kw_241
theorem gX0_99 : GoodIn allw (wsV RX0 99 RX0 yX0_endRowAt wsX0_endRowAt) := gV kw_245 kw_247 kp_9 kw_1 kw_248
theorem gX0_135 : GoodIn allw (wsV RX0 135 RX0 yX0_makePlaces wsX0_makePlaces) := gV kw_249 kw_251 kp_10 kw_1 kw_252
theorem gX0_141 : GoodIn allw (va_wsS RX0 141 yJ7_copyOf wsJ7_copyOf) := gS kw_256 kw_257 kw_11 kw_258
theorem gX0_103 : GoodIn allw (wsV RX0 103 RX0 yX0_writeElements wsX0_writeElements) := gV kw_268 kw_270 kp_11 kw_1 kw_271
theorem gL_23 : GoodIn allw (wsV RL 23 RX0 yX0_start wsX0_start) := gV kw_275 kw_276 kw_277 kw_1 kw_278
theorem gL_27 : GoodIn allw (wsV RL 27 RX0 yX0_advance wsX0_advance) := gV kw_282 kw_283 kw_284 kw_1 kw_285
theorem gL_31 : GoodIn allw (wsV RL 31 RX0 yX0_value wsX0_value) := gV kw_290 kw_291 kw_292 kw_1 kw_293
theorem gL_35 : GoodIn allw (wsV RL 35 RX0 yX0_count wsX0_count) := gV kw_297 kw_298 kw_299 kw_1 kw_300
theorem gL_39 : GoodIn allw (wsV RL 39 RX0 yX0_at wsX0_at) := gV kw_304 kw_305 kw_306 kw_1 kw_307
theorem gL_43 : GoodIn allw (wsV RL 43 RX0 yX0_projected wsX0_projected) := gV kw_312 kw_313 kw_314 kw_1 kw_315
theorem gL_65 : GoodIn allw (wsV RL 65 RX1 yX1_thrown wsX1_thrown) := gV kw_373 kw_374 kw_375 kw_3 kw_376
theorem gL_64 : GoodIn allw (wsV RL 64 RX1 yX1_element wsX1_element) := gV kw_377 kw_378 kw_379 kw_3 kw_380
theorem gL_72 : GoodIn allw (wsV RL 72 RX1 yX1_drop wsX1_drop) := gV kw_382 kw_383 kw_384 kw_3 kw_385
theorem gL_76 : GoodIn allw (wsV RL 76 RX1 yX1_assign wsX1_assign) := gV kw_386 kw_387 kw_388 kw_3 kw_389
theorem gX1_60 : GoodIn allw (wsV RX1 60 RX1 yX1_none wsX1_none) := gV kw_390 kw_392 kp_12 kw_3 kw_393
theorem gX1_64 : GoodIn allw (wsV RX1 64 RX1 yX1_rises wsX1_rises) := gV kw_394 kw_396 kp_13 kw_3 kw_397
theorem gX1_72 : GoodIn allw (wsV RX1 72 RX1 yX1_replace wsX1_replace) := gV kw_398 kw_400 kp_14 kw_3 kw_401
theorem gL_80 : GoodIn allw (wsV RL 80 RX1 yX1_start wsX1_start) := gV kw_402 kw_403 kw_404 kw_3 kw_405
theorem gL_84 : GoodIn allw (wsV RL 84 RX1 yX1_advance wsX1_advance) := gV kw_406 kw_407 kw_408 kw_3 kw_409
theorem gL_88 : GoodIn allw (wsV RL 88 RX1 yX1_active wsX1_active) := gV kw_410 kw_411 kw_412 kw_3 kw_413
theorem gL_93 : GoodIn allw (wsV RL 93 RX1 yX1_now wsX1_now) := gV kw_414 kw_415 kw_416 kw_3 kw_417
theorem gL_97 : GoodIn allw (wsV RL 97 RX1 yX1_next wsX1_next) := gV kw_418 kw_419 kw_420 kw_3 kw_421
theorem gL_101 : GoodIn allw (wsV RL 101 RX1 yX1_value wsX1_value) := gV kw_423 kw_424 kw_425 kw_3 kw_426
theorem gL_104 : GoodIn allw (wsV RL 104 RX1 yX1_count wsX1_count) := gV kw_427 kw_428 kw_429 kw_3 kw_430
theorem gL_108 : GoodIn allw (wsV RL 108 RX1 yX1_at wsX1_at) := gV kw_431 kw_432 kw_433 kw_3 kw_434
theorem gX1_78 : GoodIn allw (wsV RX1 78 RX1 yX1_find wsX1_find) := gV kw_435 kw_437 kp_15 kw_3 kw_438
theorem gL_111 : GoodIn allw (wsV RL 111 RX1 yX1_projected wsX1_projected) := gV kw_439 kw_440 kw_441 kw_3 kw_442
theorem gL_115 : GoodIn allw (wsV RL 115 RX1 yX1_total wsX1_total) := gV kw_443 kw_444 kw_445 kw_3 kw_446
end
section
/-! own rows for a walk: a top that is rewritten, compares of counted numbers, compares of longs, arrays at counted places -/
section XA
variable {p : Program} {l : Launch} {e : Env} {R : Room} {s : State} {m : MethodId} {args : Array Value} {below : List Frame} {meth : Method} {c : Code} {H : Heap} {locs : List Loc} {cells slots : Nat} {Q : State → Prop}
variable {cc : ByteArray} {pc : Nat} {ls : Array Slot} {rest : List Value} {D : va_G} {cl : List vw_C} {ws : va_W} {tys : List (ClassId × FieldType)} {A : Nat → Prop} {H0 : Heap} {a : Nat}
theorem tp_i {x y : Int32} (h : x = y) (k : W p l e R s m args below meth c H locs cells slots Q (F0 m pc ls (.int y :: rest))) : W p l e R s m args below meth c H locs cells slots Q (F0 m pc ls (.int x :: rest)) := by
  subst h; exact k
theorem tp_l {x y : Int64} (h : x = y) (k : W p l e R s m args below meth c H locs cells slots Q (F0 m pc ls (.long y :: rest))) : W p l e R s m args below meth c H locs cells slots Q (F0 m pc ls (.long x :: rest)) := by
  subst h; exact k
theorem xl_gt {x y : Int64} {off : Int} {tgt : Nat} (hx : p.tables.exec = Jvm.exec) (hb : c.code = cc) (d1 : decode cc pc = .ok (.lcmp, 1)) (d2 : decode cc (pc + 1) = .ok (.ifCond .gt off, 3)) (ht : ((pc + 1 : Nat) : Int) + off = (tgt : Int))
    (kt : y < x → W p l e R s m args below meth c H locs cells slots Q (F0 m tgt ls rest)) (kf : ¬ y < x → W p l e R s m args below meth c H locs cells slots Q (F0 m (pc + 4) ls rest)) : W p l e R s m args below meth c H locs cells slots Q (F0 m pc ls (.long y :: .long x :: rest)) :=
  W.lcmp hx hb d1 (lv_if_gt hx hb d2 ht (fun h => kt ((lg_cmp_gt x y).mp h)) (fun h => kf (fun q => h ((lg_cmp_gt x y).mpr q))))
theorem xl_le {x y : Int64} {off : Int} {tgt : Nat} (hx : p.tables.exec = Jvm.exec) (hb : c.code = cc) (d1 : decode cc pc = .ok (.lcmp, 1)) (d2 : decode cc (pc + 1) = .ok (.ifCond .le off, 3)) (ht : ((pc + 1 : Nat) : Int) + off = (tgt : Int))
    (kt : x ≤ y → W p l e R s m args below meth c H locs cells slots Q (F0 m tgt ls rest)) (kf : ¬ x ≤ y → W p l e R s m args below meth c H locs cells slots Q (F0 m (pc + 4) ls rest)) : W p l e R s m args below meth c H locs cells slots Q (F0 m pc ls (.long y :: .long x :: rest)) :=
  W.lcmp hx hb d1 (lv_if_le hx hb d2 ht (fun h => kt ((lg_cmp_le x y).mp h)) (fun h => kf (fun q => h ((lg_cmp_le x y).mpr q))))
theorem xl_lt {x y : Int64} {off : Int} {tgt : Nat} (hx : p.tables.exec = Jvm.exec) (hb : c.code = cc) (d1 : decode cc pc = .ok (.lcmp, 1)) (d2 : decode cc (pc + 1) = .ok (.ifCond .lt off, 3)) (ht : ((pc + 1 : Nat) : Int) + off = (tgt : Int))
    (kt : x < y → W p l e R s m args below meth c H locs cells slots Q (F0 m tgt ls rest)) (kf : ¬ x < y → W p l e R s m args below meth c H locs cells slots Q (F0 m (pc + 4) ls rest)) : W p l e R s m args below meth c H locs cells slots Q (F0 m pc ls (.long y :: .long x :: rest)) :=
  W.lcmp hx hb d1 (lv_if_lt hx hb d2 ht (fun h => kt ((lg_cmp_lt x y).mp h)) (fun h => kf (fun q => h ((lg_cmp_lt x y).mpr q))))
theorem xl_ge {x y : Int64} {off : Int} {tgt : Nat} (hx : p.tables.exec = Jvm.exec) (hb : c.code = cc) (d1 : decode cc pc = .ok (.lcmp, 1)) (d2 : decode cc (pc + 1) = .ok (.ifCond .ge off, 3)) (ht : ((pc + 1 : Nat) : Int) + off = (tgt : Int))
    (kt : y ≤ x → W p l e R s m args below meth c H locs cells slots Q (F0 m tgt ls rest)) (kf : ¬ y ≤ x → W p l e R s m args below meth c H locs cells slots Q (F0 m (pc + 4) ls rest)) : W p l e R s m args below meth c H locs cells slots Q (F0 m pc ls (.long y :: .long x :: rest)) :=
  W.lcmp hx hb d1 (lv_if_ge hx hb d2 ht (fun h => kt ((lg_cmp_ge x y).mp h)) (fun h => kf (fun q => h ((lg_cmp_ge x y).mpr q))))
theorem xl_eq {x y : Int64} {off : Int} {tgt : Nat} (hx : p.tables.exec = Jvm.exec) (hb : c.code = cc) (d1 : decode cc pc = .ok (.lcmp, 1)) (d2 : decode cc (pc + 1) = .ok (.ifCond .eq off, 3)) (ht : ((pc + 1 : Nat) : Int) + off = (tgt : Int))
    (kt : x = y → W p l e R s m args below meth c H locs cells slots Q (F0 m tgt ls rest)) (kf : ¬ x = y → W p l e R s m args below meth c H locs cells slots Q (F0 m (pc + 4) ls rest)) : W p l e R s m args below meth c H locs cells slots Q (F0 m pc ls (.long y :: .long x :: rest)) :=
  W.lcmp hx hb d1 (lv_if_eq hx hb d2 ht (fun h => kt ((lg_cmp_eq x y).mp h)) (fun h => kf (fun q => h ((lg_cmp_eq x y).mpr q))))
theorem xl_ne {x y : Int64} {off : Int} {tgt : Nat} (hx : p.tables.exec = Jvm.exec) (hb : c.code = cc) (d1 : decode cc pc = .ok (.lcmp, 1)) (d2 : decode cc (pc + 1) = .ok (.ifCond .ne off, 3)) (ht : ((pc + 1 : Nat) : Int) + off = (tgt : Int))
    (kt : ¬ x = y → W p l e R s m args below meth c H locs cells slots Q (F0 m tgt ls rest)) (kf : x = y → W p l e R s m args below meth c H locs cells slots Q (F0 m (pc + 4) ls rest)) : W p l e R s m args below meth c H locs cells slots Q (F0 m pc ls (.long y :: .long x :: rest)) :=
  W.lcmp hx hb d1 (lv_if_ne hx hb d2 ht (fun h => kt (fun q => h ((lg_cmp_eq x y).mpr q))) (fun h => kf ((lg_cmp_eq x y).mp h)))
theorem xc_ge {i j : Nat} {off : Int} {tgt : Nat} (hx : p.tables.exec = Jvm.exec) (hb : c.code = cc) (hi : i < 2 ^ 31) (hj : j < 2 ^ 31) (d : decode cc pc = .ok (.if_icmp .ge off, 3)) (ht : (pc : Int) + off = (tgt : Int))
    (kt : j ≤ i → W p l e R s m args below meth c H locs cells slots Q (F0 m tgt ls rest)) (kf : i < j → W p l e R s m args below meth c H locs cells slots Q (F0 m (pc + 3) ls rest)) : W p l e R s m args below meth c H locs cells slots Q (F0 m pc ls (.int (nI j) :: .int (nI i) :: rest)) :=
  lv_icmp_ge hx hb d ht (fun h => kt ((nI_leI hj hi).mp h)) (fun h => kf (Nat.lt_of_not_le fun q => h ((nI_leI hj hi).mpr q)))
theorem xc_lt {i j : Nat} {off : Int} {tgt : Nat} (hx : p.tables.exec = Jvm.exec) (hb : c.code = cc) (hi : i < 2 ^ 31) (hj : j < 2 ^ 31) (d : decode cc pc = .ok (.if_icmp .lt off, 3)) (ht : (pc : Int) + off = (tgt : Int))
    (kt : i < j → W p l e R s m args below meth c H locs cells slots Q (F0 m tgt ls rest)) (kf : j ≤ i → W p l e R s m args below meth c H locs cells slots Q (F0 m (pc + 3) ls rest)) : W p l e R s m args below meth c H locs cells slots Q (F0 m pc ls (.int (nI j) :: .int (nI i) :: rest)) :=
  lv_icmp_lt hx hb d ht (fun h => kt ((nI_ltI hi hj).mp h)) (fun h => kf (Nat.le_of_not_lt fun q => h ((nI_ltI hi hj).mpr q)))
theorem xc_gt {i j : Nat} {off : Int} {tgt : Nat} (hx : p.tables.exec = Jvm.exec) (hb : c.code = cc) (hi : i < 2 ^ 31) (hj : j < 2 ^ 31) (d : decode cc pc = .ok (.if_icmp .gt off, 3)) (ht : (pc : Int) + off = (tgt : Int))
    (kt : j < i → W p l e R s m args below meth c H locs cells slots Q (F0 m tgt ls rest)) (kf : i ≤ j → W p l e R s m args below meth c H locs cells slots Q (F0 m (pc + 3) ls rest)) : W p l e R s m args below meth c H locs cells slots Q (F0 m pc ls (.int (nI j) :: .int (nI i) :: rest)) :=
  lv_icmp_gt hx hb d ht (fun h => kt ((nI_ltI hj hi).mp h)) (fun h => kf (Nat.le_of_not_lt fun q => h ((nI_ltI hj hi).mpr q)))
theorem xc_le {i j : Nat} {off : Int} {tgt : Nat} (hx : p.tables.exec = Jvm.exec) (hb : c.code = cc) (hi : i < 2 ^ 31) (hj : j < 2 ^ 31) (d : decode cc pc = .ok (.if_icmp .le off, 3)) (ht : (pc : Int) + off = (tgt : Int))
    (kt : i ≤ j → W p l e R s m args below meth c H locs cells slots Q (F0 m tgt ls rest)) (kf : j < i → W p l e R s m args below meth c H locs cells slots Q (F0 m (pc + 3) ls rest)) : W p l e R s m args below meth c H locs cells slots Q (F0 m pc ls (.int (nI j) :: .int (nI i) :: rest)) :=
  lv_icmp_le hx hb d ht (fun h => kt ((nI_leI hi hj).mp h)) (fun h => kf (Nat.lt_of_not_le fun q => h ((nI_leI hi hj).mpr q)))
theorem xz_le {i : Nat} {off : Int} {tgt : Nat} (hx : p.tables.exec = Jvm.exec) (hb : c.code = cc) (hi : i < 2 ^ 31) (d : decode cc pc = .ok (.ifCond .le off, 3)) (ht : (pc : Int) + off = (tgt : Int))
    (kt : i = 0 → W p l e R s m args below meth c H locs cells slots Q (F0 m tgt ls rest)) (kf : 0 < i → W p l e R s m args below meth c H locs cells slots Q (F0 m (pc + 3) ls rest)) : W p l e R s m args below meth c H locs cells slots Q (F0 m pc ls (.int (nI i) :: rest)) :=
  lv_if_le hx hb d ht (fun h => kt (by
    rcases Nat.eq_zero_or_pos i with q | q
    · exact q
    · exact absurd h (nI_nle q hi))) (fun h => kf (by
    rcases Nat.eq_zero_or_pos i with q | q
    · exact absurd (by rw [q, nI_0]; exact Int32.le_refl 0) h
    · exact q))
theorem xz_ne {i : Nat} {off : Int} {tgt : Nat} (hx : p.tables.exec = Jvm.exec) (hb : c.code = cc) (hi : i < 2 ^ 31) (d : decode cc pc = .ok (.ifCond .ne off, 3)) (ht : (pc : Int) + off = (tgt : Int))
    (kt : 0 < i → W p l e R s m args below meth c H locs cells slots Q (F0 m tgt ls rest)) (kf : i = 0 → W p l e R s m args below meth c H locs cells slots Q (F0 m (pc + 3) ls rest)) : W p l e R s m args below meth c H locs cells slots Q (F0 m pc ls (.int (nI i) :: rest)) :=
  lv_if_ne hx hb d ht (fun h => kt (Nat.pos_of_ne_zero fun q => h (by rw [q, nI_0]))) (fun h => kf (by
    rcases Nat.eq_zero_or_pos i with q | q
    · exact q
    · exact absurd h (nI_ne0 q hi)))
theorem xa_iald (hx : p.tables.exec = Jvm.exec) (hb : c.code = cc) (hK : va_K D cl tys s) (hP : va_P D cl ws H) (q0 t0 : Nat) {cA : ClassId} {n : Nat} {f : Nat → Int32} (ha : ws[q0]? = some (a, .inl (cA, n, .inl f))) (ht : tys[t0]? = some (cA, .int)) {k : Nat} (hk : k < n) (hn : n < 2 ^ 31) (hdg : decode cc pc = .ok (.iaload, 1))
    (kk : W p l e R s m args below meth c H locs cells slots Q (F0 m (pc + 1) ls (.int (f k) :: rest))) : W p l e R s m args below meth c H locs cells slots Q (F0 m pc ls (.int (nI k) :: .ref a :: rest)) := by
  refine va_iald hx hb hK hP q0 t0 ha ht (vp_in_nI hk hn) hdg ?_
  rw [nI_clamp (Nat.lt_trans hk hn)]; exact kk
theorem xa_lald (hx : p.tables.exec = Jvm.exec) (hb : c.code = cc) (hK : va_K D cl tys s) (hP : va_P D cl ws H) (q0 t0 : Nat) {cA : ClassId} {n : Nat} {f : Nat → Int64} (ha : ws[q0]? = some (a, .inl (cA, n, .inr (.inl f)))) (ht : tys[t0]? = some (cA, .long)) {k : Nat} (hk : k < n) (hn : n < 2 ^ 31) (hdg : decode cc pc = .ok (.laload, 1))
    (kk : W p l e R s m args below meth c H locs cells slots Q (F0 m (pc + 1) ls (.long (f k) :: rest))) : W p l e R s m args below meth c H locs cells slots Q (F0 m pc ls (.int (nI k) :: .ref a :: rest)) := by
  refine va_lald hx hb hK hP q0 t0 ha ht (vp_in_nI hk hn) hdg ?_
  rw [nI_clamp (Nat.lt_trans hk hn)]; exact kk
theorem xa_iast (hx : p.tables.exec = Jvm.exec) (hb : c.code = cc) (hK : va_K D cl tys s) (hP : va_P D cl ws H) (hD : va_D A ws) (hS : va_S A H0 H locs) (q0 t0 : Nat) {cA : ClassId} {n : Nat} {f : Nat → Int32} (ha : ws[q0]? = some (a, .inl (cA, n, .inl f))) (ht : tys[t0]? = some (cA, .int)) {k : Nat} {x : Int32} (hk : k < n) (hn : n < 2 ^ 31) (hdg : decode cc pc = .ok (.iastore, 1))
    (kk : ∀ (H1 : Heap) (locs1 : List Loc), va_P D cl (ws.set q0 (a, .inl (cA, n, .inl (upd f k x)))) H1 → va_D A (ws.set q0 (a, .inl (cA, n, .inl (upd f k x)))) → va_S A H0 H1 locs1 → W p l e R s m args below meth c H1 locs1 cells slots Q (F0 m (pc + 1) ls rest)) : W p l e R s m args below meth c H locs cells slots Q (F0 m pc ls (.int x :: .int (nI k) :: .ref a :: rest)) := by
  refine va_iast hx hb hK hP hD hS q0 t0 ha ht (vp_in_nI hk hn) hdg ?_
  rw [nI_clamp (Nat.lt_trans hk hn)]; exact kk
theorem xa_last (hx : p.tables.exec = Jvm.exec) (hb : c.code = cc) (hK : va_K D cl tys s) (hP : va_P D cl ws H) (hD : va_D A ws) (hS : va_S A H0 H locs) (q0 t0 : Nat) {cA : ClassId} {n : Nat} {f : Nat → Int64} (ha : ws[q0]? = some (a, .inl (cA, n, .inr (.inl f)))) (ht : tys[t0]? = some (cA, .long)) {k : Nat} {x : Int64} (hk : k < n) (hn : n < 2 ^ 31) (hdg : decode cc pc = .ok (.lastore, 1))
    (kk : ∀ (H1 : Heap) (locs1 : List Loc), va_P D cl (ws.set q0 (a, .inl (cA, n, .inr (.inl (vp_updL f k x))))) H1 → va_D A (ws.set q0 (a, .inl (cA, n, .inr (.inl (vp_updL f k x))))) → va_S A H0 H1 locs1 → W p l e R s m args below meth c H1 locs1 cells slots Q (F0 m (pc + 1) ls rest)) : W p l e R s m args below meth c H locs cells slots Q (F0 m pc ls (.long x :: .int (nI k) :: .ref a :: rest)) := by
  refine va_last hx hb hK hP hD hS q0 t0 ha ht (vp_in_nI hk hn) hdg ?_
  rw [nI_clamp (Nat.lt_trans hk hn)]; exact kk
theorem xa_copyl {own : String} {index : Nat} (hx : p.tables.exec = Jvm.exec) (hb : c.code = cc) (hml : c.maxLocals = ls.size) (hown : s.vm.findClass own = some m.cls) (hlink : (Cond.methodLink own index arraycopyName).before args s = true) (hnat : (Cond.native arraycopyName).before args s = true) (hstat : (Cond.static arraycopyName).before args s = true) (hini : (Cond.initialized "java/lang/System").before args s = true)
    (hK : va_K D cl tys s) (hP : va_P D cl ws H) (hD : va_D A ws) (hS : va_S A H0 H locs) (q0 t0 : Nat) {c0 : ClassId} {N : Nat} {f : Nat → Int64} (ha0 : ws[q0]? = some (a, .inl (c0, N, .inr (.inl f)))) (ht0 : tys[t0]? = some (c0, .long)) {sp dp n : Nat} (h4 : sp + n ≤ N) (h5 : dp + n ≤ N) (hN : N < 2 ^ 31)
    (hframes : 1 ≤ R.frames) (hlocals : (rest.map fun v => v.category).sum + (nativeFrameWords "java/lang/System" "arraycopy" 5 + 11) ≤ R.locals) (hdg : decode cc pc = .ok (.invokestatic index, 3))
    (kk : ∀ (H1 : Heap) (locs1 : List Loc), va_P D cl (ws.set q0 (a, .inl (c0, N, .inr (.inl (va_cpy f f sp dp n))))) H1 → va_D A (ws.set q0 (a, .inl (c0, N, .inr (.inl (va_cpy f f sp dp n))))) → va_S A H0 H1 locs1 → W p l e R s m args below meth c H1 locs1 cells slots Q (F0 m (pc + 3) ls rest)) : W p l e R s m args below meth c H locs cells slots Q (F0 m pc ls (.int (nI n) :: .int (nI dp) :: .ref a :: .int (nI sp) :: .ref a :: rest)) := by
  have e1 := nI_clamp (n := sp) (by omega)
  have e2 := nI_clamp (n := dp) (by omega)
  have e3 := nI_clamp (n := n) (by omega)
  refine va_copyl hx hb hml hown hlink hnat hstat hini hK hP hD hS q0 q0 t0 t0 ha0 ha0 ht0 ht0 rfl (nI_pos (by omega)) (nI_pos (by omega)) (nI_pos (by omega)) (by rw [e1, e3]; exact h4) (by rw [e2, e3]; exact h5) (fun _ _ => rfl) hframes hlocals hdg ?_
  rw [e1, e2, e3]
  exact kk
/-- a call that changes nothing and gives nothing back -/
def xv_S (post : Prop) : Array Value → State → Outcome → State → Prop := fun _ st o t => o = .returned none ∧ post ∧ t.heap = st.heap
theorem xv_call {post : Prop} {a : Array Value} {st0 : List Value} (hr : CallRun p l e R s m args below meth c H locs cells slots 0 0 (F0 m pc ls st0) rest (xv_S post a) (fun _ => False))
    (kk : post → W p l e R s m args below meth c H locs cells slots Q (F0 m (pc + 3) ls rest)) : W p l e R s m args below meth c H locs cells slots Q (F0 m pc ls st0) := by
  intro T hT X
  obtain ⟨v, st₀, t, T', L, h0, X', hL, e1, ⟨hv, hp, hh⟩, st⟩ := hr T hT X
  cases hv
  obtain ⟨t2, a1, b1⟩ := kk hp T' (by rw [e1, hh, h0]) (Stand.forget X' (fun q h => (hL q h).elim))
  exact ⟨t2, st t2 a1, b1⟩
theorem xr_blind {As : List Value} {D : va_G} {cl : List vw_C} {ws : va_W} {tys : List (ClassId × FieldType)} : FrameBlind (va_Pc As (fun U => va_P D cl ws U.heap ∧ va_K D cl tys U)) := fun a U g mk q => by
  obtain ⟨q0, qP, qK⟩ := q
  exact ⟨q0, qP, va_K.moved (u := U) (U := U.calling g mk a) (Vm.Alike.refl U.vm) qK⟩
theorem xu_blind {As : List Value} {D : va_G} {cl : List vw_C} {ws : va_W} {tys : List (ClassId × FieldType)} {sz : Nat} : FrameBlind (va_Pc As (fun U => U.heap.size = sz ∧ va_P D cl ws U.heap ∧ va_K D cl tys U ∧ va_D (fun _ => True) ws)) := fun a U g mk q => by
  obtain ⟨q0, q1, qP, qK, qD⟩ := q
  exact ⟨q0, q1, qP, va_K.moved (u := U) (U := U.calling g mk a) (Vm.Alike.refl U.vm) qK, qD⟩
end XA

def un (r : Nat → Nat) (k v : Nat) : Nat → Nat := fun j => if j = k then v else r j
theorem un_nI (r : Nat → Nat) (k v : Nat) : upd (fun j => nI (r j)) k (nI v) = fun j => nI (un r k v j) := by
  funext j
  unfold un
  by_cases h : j = k
  · subst h; rw [pk_us, if_pos rfl]
  · rw [pk_un h, if_neg h]
theorem xs_i {a b c : Nat} (h : c ≤ a + b) : nI a + (nI b - nI c) = nI (a + b - c) := by
  rw [Int32.sub_eq_add_neg, ← Int32.add_assoc, ← Int32.sub_eq_add_neg, nI_add, pk_sub h]
theorem xk_sameL {D : va_G} {cl : List vw_C} {tys : List (ClassId × FieldType)} {U : State} {c1 c2 : ClassId} {t1 t2 : Nat} (hK : va_K D cl tys U) (h1 : tys[t1]? = some (c1, .long)) (h2 : tys[t2]? = some (c2, .long)) : c1 = c2 := by
  have e1 : U.vm.findClass ("[" ++ (FieldType.long).toString) = some c1 := (hK.2 t1 _ h1).2
  have e2 : U.vm.findClass ("[" ++ (FieldType.long).toString) = some c2 := (hK.2 t2 _ h2).2
  exact Option.some.inj (e1.symm.trans e2)
theorem xk_sameI {D : va_G} {cl : List vw_C} {tys : List (ClassId × FieldType)} {U : State} {c1 c2 : ClassId} {t1 t2 : Nat} (hK : va_K D cl tys U) (h1 : tys[t1]? = some (c1, .int)) (h2 : tys[t2]? = some (c2, .int)) : c1 = c2 := by
  have e1 : U.vm.findClass ("[" ++ (FieldType.int).toString) = some c1 := (hK.2 t1 _ h1).2
  have e2 : U.vm.findClass ("[" ++ (FieldType.int).toString) = some c2 := (hK.2 t2 _ h2).2
  exact Option.some.inj (e1.symm.trans e2)
theorem xm_min {a b : Nat} (ha : a < 2 ^ 31) (hb : b < 2 ^ 31) : (if nI b < nI a then nI b else nI a) = nI (min a b) := by
  by_cases h : b < a
  · rw [if_pos ((nI_ltI hb ha).mpr h), Nat.min_eq_right (by omega)]
  · rw [if_neg (fun q => h ((nI_ltI hb ha).mp q)), Nat.min_eq_left (by omega)]
theorem xm_max {a b : Nat} (ha : a < 2 ^ 31) (hb : b < 2 ^ 31) : (if nI a < nI b then nI b else nI a) = nI (max a b) := by
  by_cases h : a < b
  · rw [if_pos ((nI_ltI ha hb).mpr h), Nat.max_eq_right (by omega)]
  · rw [if_neg (fun q => h ((nI_ltI ha hb).mp q)), Nat.max_eq_left (by omega)]
end
section
/-! methods that throw and leave all that was there as it was: their contract, the throw itself, a call of such a method, its passing on, its catching -/
section XT
variable {p : Program} {l : Launch} {e : Env} {R : Room} {s : State} {m : MethodId} {args : Array Value} {below : List Frame} {meth : Method} {c : Code} {H : Heap} {locs : List Loc} {cells slots : Nat} {Q : State → Prop}
variable {cc : ByteArray} {pc : Nat} {ls : Array Slot} {rest : List Value}
/-- thrown: an object of the class E, one new cell of six slots, nothing else -/
def xt_Q (E : String) : Array Value → State → Outcome → State → Prop := fun _ st o t =>
  ∃ (q : Addr) (ce : Cell), o = .threw q ∧ t.heap[q]? = some ce ∧ ce.vm = .none ∧ st.vm.findClass E = some ce.cls ∧ st.heap.size ≤ t.heap.size ∧ (∀ z : Nat, z < st.heap.size → t.heap[z]? = st.heap[z]?) ∧ FrameEndT st o t [] 1 6
def xt_Met (l : Launch) (y : MethodName) (ws : List Cond) (rm : Room) (Pc : Array Value → State → Prop) (E : String) : Prop :=
  MetFree l y (headSpec ws rm) Pc (fun _ _ _ _ _ => True) (xt_Q E)
def xt_MQ (below : List Frame) (E : String) (a : Array Value) (s : State) : State → Prop := fun t => ∃ o, t.status = .running ∧ Ended t below o ∧ xt_Q E a s o t
theorem xt_kept {U : State} {k n : Nat} (h : s.sameButNew ({ U with vm := s.vm } : State) [] k n) : s.heap.size ≤ U.heap.size ∧ ∀ q : Nat, q < s.heap.size → U.heap[q]? = s.heap[q]? := by
  obtain ⟨-, h2, -, -, -, h6⟩ := h
  refine ⟨h2, fun q hq => ?_⟩
  obtain ⟨c9, e1, e2, -, e4⟩ := h6 q _ (Array.getElem?_eq_getElem hq)
  have hs : c9.slots = (s.heap[q]).slots := Array.ext_getElem? fun i => e4 i (fun hm => nomatch hm)
  have h9 : c9 = s.heap[q] := by
    rw [hs] at e2
    exact e2
  have e5 : U.heap[q]? = some c9 := e1
  rw [e5, h9, Array.getElem?_eq_getElem hq]
theorem xt_ofW {y : MethodName} {ws ws' : List Cond} {rm : Room} {Pc : Array Value → State → Prop} {E : String} {maxL : Nat} {ret : Option FieldType}
    (hy : plainName y.cls = true) (hw : ws = Cond.code y cc maxL ret :: ws')
    (body : ∀ p e s m args below meth c s₁, BodyLoose p l y (headSpec ws rm) cc maxL ret e s m args below meth c s₁ → c.maxLocals = maxL → (∀ z ∈ c.exceptionTable.toList, False) → Pc args s →
      W p l e (headSpec ws rm).room s m args below meth c s.heap [] 0 0 (xt_MQ below E args s) (entryFrame m args maxL)) : xt_Met l y ws rm Pc E := by
  refine MetFree.of_bodyS (code := cc) (maxLocals := maxL) (ret := ret) hy ?_ ?_
  · intro args s m h hn
    obtain ⟨meth, c, h1, h2, h3, h4, h5, h6, -, -⟩ := Cond.code_spec hn (atoms_spec (ws := ws) h _ (by rw [hw]; exact List.mem_cons_self))
    exact ⟨meth, c, h1, h2, h3, h4, h5, h6⟩
  · intro p e s m args below meth c s₁ B hml hP _
    have hh0 : s₁.heap = s.heap := by rw [B.state]; rfl
    have ht : ∀ z ∈ c.exceptionTable.toList, False := by
      obtain ⟨meth9, c9, h1, h2, -, -, -, -, h7, -⟩ := Cond.code_spec B.named (atoms_spec (ws := ws) B.pre _ (by rw [hw]; exact List.mem_cons_self))
      cases Option.some.inj (h1.symm.trans B.method)
      cases Option.some.inj (h2.symm.trans (Stand.of_body B).code)
      intro z hz
      rw [Array.isEmpty_iff.mp h7] at hz
      cases hz
    obtain ⟨t, a1, o, b1, b2, b3⟩ := body p e s m args below meth c s₁ B hml ht hP s₁ hh0 (Stand.of_body B)
    exact ⟨t, o, a1, b1, b2, b3⟩
/-- 'throw new E("text")' where nothing has been made or written yet -/
theorem xt_throw (hexec : p.tables.exec = Jvm.exec) (hb : c.code = cc) (hl : l.stackTraces = false) {own cls text : String} {names : List String} {ik is ic sa : Nat}
    (hown : s.vm.findClass own = some m.cls) (hcls : Bundle.fit cls = true) (hnames : ∀ n ∈ names, Bundle.fit n = true)
    (hk : (Cond.classLink own ik cls).before args s = true) (hini : (Cond.initialized cls).before args s = true) (hstr : vk_R own is text sa s) (hat : ∀ w ∈ Bundle.ownAtoms own ic cls names, w.before args s = true) (hsize : ls.size = c.maxLocals)
    (d0 : decode cc pc = .ok (.new ik, 3)) (d3 : decode cc (pc + 3) = .ok (.dup, 1)) (d4 : decode cc (pc + 4) = .ok (.ldc is, 2)) (d6 : decode cc (pc + 6) = .ok (.invokespecial ic, 3)) (d9 : decode cc (pc + 9) = .ok (.athrow, 1))
    (hout : ∀ z ∈ c.exceptionTable.toList, False) (hRframes : names.length + 3 < R.frames) (hRlocals : (rest.map fun v => v.category).sum + (13 * (names.length + 1) + 43) ≤ R.locals) (hRcells : 1 ≤ R.cells) (hRslots : 6 ≤ R.slots) (hlocks : meth.locks = false) :
    W p l e R s m args below meth c s.heap [] 0 0 (xt_MQ below cls args s) (F0 m pc ls rest) := by
  intro T hT X
  have htr : e.platform.stackTraces = false := (show e.platform.stackTraces = l.stackTraces by rw [X.admits.platform]).trans hl
  have hins : (Cond.instantiable cls 6).before args s = true := hat _ (by simp [Bundle.ownAtoms])
  obtain ⟨vm₁, cX, kX, hfX, hkX, -, -, X₁, st1⟩ := X.newCold hexec (own := own) (C := cls) (index := ik) (n := 6) hown hk hins hini
    (g := F0 m pc ls rest) rfl (by rw [hb]; exact d0) (by rw [Nat.zero_add]; exact hRcells) (by rw [Nat.zero_add]; exact hRslots)
  generalize hT1 : (T.setVm vm₁).pushCell { cls := cX, slots := kX.instanceTypes.map defaultValue, vm := .none } = T1 at X₁ st1
  have hcat : (Value.ref T.heap.size).category = 1 := rfl
  have hcellA : T1.heap[T.heap.size]? = some (freshCell cX kX) := by rw [← hT1]; exact State.heap_pushCell_size _ _
  have d3' : decode c.code (pc + 3) = .ok (.dup, 1) := by rw [hb]; exact d3
  have d4' : decode c.code (pc + 4) = .ok (.ldc is, 2) := by rw [hb]; exact d4
  obtain ⟨U, hsteps, hrun, hend, hW, hsame, ce, hce, hO⟩ := X₁.ctorThrowS hexec htr (own := own) (cls := cls) (names := names) (ic := ic) hown hcls hnames hat (fun x hx => nomatch hx) hfX hkX hcellA (by rw [hT]; exact Nat.le_refl _) (msg := .ref sa) rfl
    (g := { method := m, pc := pc + 6, locals := ls, stack := .ref sa :: .ref T.heap.size :: .ref T.heap.size :: rest, locked := none }) rfl hsize rfl rfl (rest := rest) rfl
    (by rw [hb]; exact d6) (by rw [hb]; exact d9) (fun z hz => (hout z hz).elim) hRframes (by simp only [List.map_cons, List.sum_cons, hcat]; omega) hlocks
  rw [Nat.zero_add, Nat.zero_add] at hsame
  obtain ⟨f1, f2⟩ := xt_kept hsame
  refine ⟨U, ?_, .threw T.heap.size, hrun, hend, T.heap.size, ce, rfl, hce, hO.vm, hO.cls, f1, f2, ⟨_, rfl⟩, hW, hsame⟩
  refine st1 _ ?_
  show Steps p.tables e below (T1.setTop { method := m, pc := pc + 3, locals := ls, stack := .ref T.heap.size :: rest, locked := none }) _
  jvm_step X₁.here [X₁.here.top, hexec, d3', Value.category]
  exact X₁.ldcString hexec (own := own) (text := text) (index := is) (a := sa) hown hstr.1 hstr.2
    (g := { method := m, pc := pc + 4, locals := ls, stack := .ref T.heap.size :: .ref T.heap.size :: rest, locked := none }) rfl d4' _ hsteps
/-- this method's frame, with q thrown over it -/
def xt_W (p : Program) (l : Launch) (e : Env) (R : Room) (s : State) (m : MethodId) (args : Array Value) (below : List Frame) (meth : Method) (c : Code) (H : Heap) (locs : List Loc) (cells slots : Nat) (Q : State → Prop) (g : JFrame) (q : Addr) : Prop :=
  ∀ T : State, T.heap = H → Stand p l e R s m args below meth c T locs cells slots → ∃ t, Steps p.tables e below ((T.setTop g).pushFrame (.throwing q)) t ∧ Q t
/-- nobody catches it here -/
theorem xt_out {E : String} {ce : Cell} {q : Addr} (hout : ∀ z ∈ c.exceptionTable.toList, False) (hlocks : meth.locks = false) (hcell : H[q]? = some ce) (hv : ce.vm = .none) (hcl : s.vm.findClass E = some ce.cls) :
    xt_W p l e R s m args below meth c H [] 1 6 (xt_MQ below E args s) (F0 m pc ls rest) q := by
  intro T hT X
  obtain ⟨st1, hrun, hend, hW, hsm⟩ := X.leaveThrown q (g := F0 m pc ls rest) rfl rfl rfl (fun z hz => (hout z hz).elim) hlocks
  obtain ⟨k1, k2⟩ := xt_kept hsm
  have h9 : (T.setFrames (.throwing q :: below)).heap[q]? = some ce := by
    show T.heap[q]? = some ce
    rw [hT]; exact hcell
  exact ⟨_, st1, .threw q, hrun, hend, q, ce, rfl, h9, hv, hcl, k1, k2, ⟨_, rfl⟩, hW, hsm⟩
/-- caught by the row x of this method's table; the rows ahead of it don't take it -/
theorem xt_catch {own name E : String} {ce : Cell} {q : Addr} (hown : s.vm.findClass own = some m.cls) (pre : List ExceptionTableEntry) (x : ExceptionTableEntry) (suf : List ExceptionTableEntry) (hsplit : c.exceptionTable.toList = pre ++ x :: suf)
    (hpass : ∀ z ∈ pre, z.catchType ≠ 0 ∧ ∃ nm : String, (Cond.classLink own z.catchType nm).before args s = true ∧ va_Nc E nm s) (hx : covers x pc = true) (h0 : x.catchType ≠ 0)
    (hlink : (Cond.classLink own x.catchType name).before args s = true) (hcast : (Cond.castable E name).before args s = true) (hcell : H[q]? = some ce) (hv : ce.vm = .none) (hcl : s.vm.findClass E = some ce.cls)
    (kk : W p l e R s m args below meth c H locs cells slots Q (F0 m x.handlerPc ls [.ref q])) : xt_W p l e R s m args below meth c H locs cells slots Q (F0 m pc ls rest) q := by
  intro T hT X
  have hpl : e.platform.magicAccessors = ({} : Platform).magicAccessors := by rw [X.admits.platform]
  obtain ⟨c3, c4, hc3, hc4, hasg⟩ := Cond.castable_spec hcast
  cases Option.some.inj (hc3.symm.trans hcl)
  obtain ⟨c5, hc5, hcl5⟩ := Cond.classLink_spec hown hlink e.platform hpl
  cases Option.some.inj (hc4.symm.trans hc5)
  obtain ⟨vm', X', st⟩ := X.thenCaughtThrough q (g := F0 m pc ls rest) rfl (Steps.refl _) (by rw [hT]; exact hcell) (by rw [hv]; rfl) (by obtain ⟨k9, h9, -⟩ := Vm.findClass_spec hcl; exact ⟨k9, h9⟩) pre x suf hsplit
    (fun z hz => by
      obtain ⟨hz0, nm, hl1, hn1⟩ := hpass z hz
      obtain ⟨c6, hc6, hcl6⟩ := Cond.classLink_spec hown hl1 e.platform hpl
      obtain ⟨a8, b8, h1, h2, h3⟩ := hn1
      cases Option.some.inj (h1.symm.trans hcl)
      cases Option.some.inj (h2.symm.trans hc6)
      exact Or.inr ⟨hz0, _, hcl6, h3⟩) hx (Or.inr ⟨h0, c4, hcl5, hasg⟩)
  obtain ⟨t, a1, b1⟩ := kk (T.setVm vm') hT X'
  exact ⟨t, st.trans a1, b1⟩
theorem xt_back {ws : List Cond} {rm : Room} {Pc : Array Value → State → Prop} {E : String} {bytes : ByteArray} {maxL : Nat} {ret : Option FieldType} {y : MethodName} {len W9 : Nat} {sargs : Array Value}
    (hM : xt_Met l y ws rm Pc E) (hblind : FrameBlind Pc) (hrc : rm.cells = 1) (hrs : rm.slots = 6) (hframes : rm.frames + 1 ≤ R.frames) (hlocals : W9 + (maxL + 11) + rm.locals ≤ R.locals)
    (hws : ∀ w ∈ ws, ∀ a' U, s.WarmedH U.vm → w.before a' U = true) (hcode : Cond.code y bytes maxL ret ∈ ws) (hinit : ∀ a' U, s.WarmedH U.vm → (Cond.initialized y.cls).before a' U = true) :
    BackT l R p e below s sargs y len W9 (PreOf R 1 6 Pc) (fun A _ q B => ∃ ce : Cell, B.U.heap[q]? = some ce ∧ ce.vm = .none ∧ A.U.vm.findClass E = some ce.cls ∧ A.U.heap.size ≤ B.U.heap.size ∧ (∀ z : Nat, z < A.U.heap.size → B.U.heap[z]? = A.U.heap[z]?) ∧ B.locs = A.locs ∧ B.cells = A.cells + 1 ∧ B.slots = A.slots + 6) := by
  refine BackT.of_free (S := headSpec ws rm) (P := Pc) (K := fun _ _ _ _ _ => True) (Q := xt_Q E) (bytes := bytes) (maxL := maxL) (ret := ret)
    (E := fun _ _ _ _ L k n => L = [] ∧ k = 1 ∧ n = 6) hM hframes hlocals ?_ ?_ (fun _ _ _ _ _ _ _ _ _ => trivial) ?_ ?_
  · intro m meth c A a X hp
    exact ⟨atoms_intro fun w hw => hws w hw _ _ X.warmed, hws _ hcode _ _ X.warmed, hinit _ _ X.warmed, by rw [show (headSpec ws rm).room.cells = 1 from hrc]; exact hp.1, by rw [show (headSpec ws rm).room.slots = 6 from hrs]; exact hp.2.1⟩
  · intro m meth c A a g mk X hp
    exact hblind _ _ _ _ hp.2.2
  · intro a st o t h
    obtain ⟨q, ce, h1, h2, h3, h4, h5, h6, hF⟩ := h
    exact ⟨[], 1, 6, hF, rfl, rfl, rfl⟩
  · intro m meth c A a g mk v t L k n X hp hq hF h9
    obtain ⟨e0, e1, e2⟩ := h9
    subst e0; subst e1; subst e2
    obtain ⟨q, ce, h1, h2, h3, h4, h5, h6, -⟩ := hq
    cases h1
    exact ⟨ce, h2, h3, h4, h5, h6, List.append_nil _, rfl, rfl⟩
/-- a call by name of a method that throws -/
theorem xt_callV {own C : String} {index n : Nat} {y : MethodName} {bytes : ByteArray} {maxL nL : Nat} {ret : Option FieldType} {ws Ts : List Cond} {rm : Room} {Pc : Array Value → State → Prop} {E : String} {b : Addr} {As st0 : List Value}
    (S : CallFix p m c cc nL s args Ts own) (hM : xt_Met l y ws rm Pc E) (cw : CallW R s args own C index y bytes maxL ret ws rm 1 6 n) (hp : PreV s H C b Pc As)
    (hn : As.length = n) (hsize : ls.size = nL) (hst : st0 = As.reverse ++ .ref b :: rest) (hW : 2 * (F0 m pc ls rest).monitorRoom + (rest.map fun v => v.category).sum ≤ 8) (hdg : decode cc pc = .ok (.invokevirtual index, 3)) (hf : cells + 1 ≤ R.cells ∧ slots + 6 ≤ R.slots)
    (kk : ∀ (q : Addr) (ce : Cell) (H1 : Heap), H1[q]? = some ce → ce.vm = .none → s.vm.findClass E = some ce.cls → H.size ≤ H1.size → (∀ z : Nat, z < H.size → H1[z]? = H[z]?) → xt_W p l e R s m args below meth c H1 locs (cells + 1) (slots + 6) Q (F0 m pc ls rest) q) :
    W p l e R s m args below meth c H locs cells slots Q (F0 m pc ls st0) := by
  obtain ⟨⟨hrc, hrs, hfr, hlo, hws, hcw, hcode, hini, hy, hlen, hl⟩, hin, hse⟩ := cw
  have hK := xt_back (p := p) (e := e) (below := below) (sargs := args) (len := 3) (W9 := 8) (bytes := bytes) (maxL := maxL) (ret := ret) hM hp.1 hrc hrs hfr hlo hws hcw (fun a' U hW => word_at hW (Or.inl (by first | rfl | simp [Cond.onTables, Cond.keeps, Cond.steady])) hini)
  obtain ⟨hx, hb, hml, ho, -⟩ := S
  obtain ⟨-, ⟨cellB, hcB, hoB, hclB⟩, hPc⟩ := hp
  intro T hT X
  obtain ⟨mk, methM, hnamed, hmethM, hstM, habM⟩ := Cond.instanceMethod_spec hin
  obtain ⟨methM', cM, hmethM', -, -, -, -, -, -, hsigM⟩ := Cond.code_spec hnamed hcode
  cases hmethM.symm.trans hmethM'
  obtain ⟨c9, r9, m9, q1, q2, q3, q4, kP, hkP, hkPi⟩ := Cond.selects_spec hse
  cases hclB.symm.trans q1
  cases (State.methodFound?_of_named hnamed hy).symm.trans q2
  cases hnamed.symm.trans q3
  have hselP : selectMethod e.platform s.vm cellB.cls mk = .method mk := by rw [Launch.admits_selectMethod X.admits]; exact q4
  obtain ⟨vm₁, X₁, hstep₁⟩ := X.invokevirtual hx ho hl hnamed hmethM hstM hkP hkPi hy (a := b) (cell := cellB) (by rw [hT]; exact hcB)
    (fun z h => by rw [h] at hoB; cases hoB) hselP hmethM habM hkP hkPi (g := F0 m pc ls st0) rfl (argsL := As) (rest := rest) (hn.trans (hlen _ hsigM)) hst (by rw [hb]; exact hdg)
  obtain ⟨q, ⟨U', l2, k2, n2⟩, X', ⟨ce, h1, h2, h3, h4, h5, e1, e2, e3⟩, hsteps⟩ := hK m meth c ⟨T.setVm vm₁, locs, cells, slots⟩ (F0 m pc ls rest) (.invokevirtual index) mk (Value.ref b :: As).toArray X₁ rfl (hsize.trans hml.symm) (by rw [hb]; exact hdg) hW (X₁.named hnamed) ⟨hf.1, hf.2, hPc (T.setVm vm₁) hT X₁.warmed⟩
  dsimp only [Pt.U, Pt.locs, Pt.cells, Pt.slots] at X' h1 h3 h4 h5 e1 e2 e3 hsteps
  subst e1; subst e2; subst e3
  have h3' : s.vm.findClass E = some ce.cls := by
    have h9 : vm₁.findClass E = some ce.cls := h3
    rw [show vm₁.findClass E = s.vm.findClass E from X₁.warmed.alike.findClass ..] at h9
    exact h9
  have hT' : (T.setVm vm₁).heap = H := hT
  rw [hT'] at h4 h5
  obtain ⟨t, a1, b1⟩ := kk q ce U'.heap h1 h2 h3' h4 h5 U' rfl X'
  exact ⟨t, hstep₁ _ fun acts => by rw [doInvoke_state]; exact hsteps.trans a1, b1⟩
/-- a static call of a method with handlers of its own, that returns -/
theorem xt_runSW {own : String} {index n : Nat} {y : MethodName} {bytes : ByteArray} {maxL nL mc ms : Nat} {ret : Option FieldType} {hh : List (Nat × Nat × Nat × Nat)} {ws ws' Ts : List Cond} {rm : Room} {Pc : Array Value → State → Prop} {Qc : Array Value → State → Outcome → State → Prop} {free : Addr → Prop} {As : List Value} {g : JFrame}
    (S : CallFix p m c cc nL s args Ts own) (hM : Met l y ws rm Pc Qc mc ms free) (hG : GoodIn Ts (va_wsS own index y ws)) (hw : ws = Cond.codeWith y bytes maxL ret hh :: ws') (hrc : rm.cells = mc) (hrs : rm.slots = ms)
    (hd : y.cls ≠ "java/lang/invoke/MethodHandle" ∧ y.cls ≠ "java/lang/invoke/VarHandle" ∧ (parseMethodDescriptor y.desc).map (fun d => d.parameters.length) = some n) (hR : rm.frames + 1 ≤ R.frames ∧ 8 + (maxL + 11) + rm.locals ≤ R.locals) (hp : PreS s H Pc As)
    (hg : g.method = m) (hn : As.length = n) (hsize : g.locals.size = nL) (hstack : g.stack = As.reverse ++ rest) (hW : 2 * g.monitorRoom + (rest.map fun v => v.category).sum ≤ 8) (hdg : decode cc g.pc = .ok (.invokestatic index, 3)) (hf : cells + mc ≤ R.cells ∧ slots + ms ≤ R.slots) :
    va_Run p l e R s m args below meth c H locs cells slots mc ms g rest (Qc As.toArray) free := by
  obtain ⟨hx, hb, hml, ho, ht⟩ := S
  have ok : ∀ w ∈ va_wsS own index y ws, w.before args s = true := fun w h => ht w (hG w h).1
  have hG2 : GoodIn Ts ws := fun w h => hG w (by unfold va_wsS; exact List.mem_append_right _ h)
  have hc : Cond.codeWith y bytes maxL ret hh ∈ ws := by rw [hw]; exact List.mem_cons_self
  have hini : (Cond.initialized y.cls).before args s = true := ok _ (by simp [va_wsS])
  have hcode : (Cond.codeWith y bytes maxL ret hh).before args s = true := ht _ (hG2 _ hc).1
  have hK : Back l R p e below s args y 3 8 (PreOf R mc ms Pc) (PostOf Qc mc ms free) := va_backW (hh := hh) (bytes := bytes) (maxL := maxL) (ret := ret) hM hp.1 hrc hrs hR.1 hR.2 (pay_in ht hG2) hc (fun a' U hW => word_at hW (Or.inl (by first | rfl | simp [Cond.onTables, Cond.keeps, Cond.steady])) hini)
  intro T hT X
  obtain ⟨mk, methM, cM, hnamed, hmethM, -, -, -, -, -, -, hsigM⟩ := Cond.codeWith_spec hcode
  have hstatic : methM.isStatic = true := Cond.static_spec hnamed hmethM (ok _ (by simp [va_wsS]))
  obtain ⟨kP, hkP, -⟩ := className_of_methodNamed hnamed
  have hinitP : kP.init = .initialized := Cond.initialized_spec (findClass_of_methodNamed hnamed) hkP hini
  have hlen : As.length = methM.sig.parameters.length := by
    have h2 := hd.2.2
    rw [hsigM] at h2
    exact hn.trans (Option.some.inj h2).symm
  obtain ⟨vm₁, X₁, hstep₁⟩ := X.invokestatic hx ho (ok (.methodLink own index y) (by simp [va_wsS])) hnamed hmethM hstatic hkP hinitP ⟨hd.1, hd.2.1⟩ (g := g) hg (argsL := As) (rest := rest) hlen hstack (by rw [hb]; exact hdg)
  obtain ⟨v, ⟨U', l2, k2, n2⟩, X', ⟨g', mk', t, L, e1, e2, hq, h1, hL, h2, h3⟩, hsteps⟩ := hK m meth c ⟨T.setVm vm₁, locs, cells, slots⟩ { g with stack := rest } (.invokestatic index) mk As.toArray X₁ hg (hsize.trans hml.symm) (by rw [hb]; exact hdg) hW (X₁.named hnamed) ⟨hf.1, hf.2, hp.2 (T.setVm vm₁) hT X₁.warmed⟩
  dsimp only [Pt.U, Pt.locs, Pt.cells, Pt.slots] at X' e1 e2 h1 h2 h3 hsteps
  subst h1; subst h2; subst h3
  exact ⟨v, (T.setVm vm₁).calling g' mk' As.toArray, t, U', L, hT, X', hL, e1, e2, hq, fun target h => hstep₁ _ fun acts => by rw [doInvoke_state]; exact hsteps.trans h⟩
end XT
end
section
/-! the class's state: its eight cells; what holds of its numbers; what its methods compute -/
abbrev wr (x a1 a2 a3 a4 a5 a6 a7 : Nat) (cI cJ : ClassId) (nD nR : Nat) (dv : Nat → Int64) (r : Nat → Nat) (cap : Nat) (ti va ev ed : Nat → Int64) (ec : Nat) (ad : Nat → Int32) (ac : Nat) (now : Int64) : va_W :=
  [(x, .inr (0, [.int (nI nD), .int (nI nR), .ref a1, .ref a2, .ref a3, .ref a4, .ref a5, .ref a6, .int (nI ec), .ref a7, .int (nI ac), .long now])), (a1, .inl (cJ, nD, .inr (.inl dv))), (a2, .inl (cI, nD + 1, .inl (fun j => nI (r j)))), (a3, .inl (cJ, cap, .inr (.inl ti))), (a4, .inl (cJ, cap, .inr (.inl va))), (a5, .inl (cJ, 16, .inr (.inl ev))), (a6, .inl (cJ, 16, .inr (.inl ed))), (a7, .inl (cI, nD, .inl ad))]
/-- the numbers of an object that is in order: drivers, room, places, elements, active ones, where the rows begin -/
def wf_R (nD nR cap ec ac : Nat) (r : Nat → Nat) : Prop := 1 ≤ nD ∧ nD ≤ 512 ∧ 1 ≤ nR ∧ nR ≤ 8192 ∧ cap ≤ 8192 ∧ r nD ≤ cap ∧ r nD ≤ nR ∧ r 0 = 0 ∧ (∀ j, j < nD → r j ≤ r (j + 1)) ∧ ec ≤ 16 ∧ ac ≤ nD
theorem wf_mono {nD : Nat} {r : Nat → Nat} (h : ∀ j, j < nD → r j ≤ r (j + 1)) : ∀ n i : Nat, i + n ≤ nD → r i ≤ r (i + n) := by
  intro n
  induction n with
  | zero => intro i _; exact Nat.le_refl _
  | succ n ih => intro i hi; exact Nat.le_trans (ih i (by omega)) (h (i + n) (by omega))
theorem wf_le {nD : Nat} {r : Nat → Nat} (h : ∀ j, j < nD → r j ≤ r (j + 1)) {i j : Nat} (hij : i ≤ j) (hj : j ≤ nD) : r i ≤ r j := by
  have q := wf_mono h (j - i) i (by omega)
  rw [show i + (j - i) = j by omega] at q
  exact q
/-- the first of n places from a on whose time is behind t; else the place behind them -/
def wf_fb (ti : Nat → Int64) (t : Int64) : Nat → Nat → Nat
  | 0, a => a
  | n + 1, a => if ti a ≤ t then wf_fb ti t n (a + 1) else a
/-- from place a + n down to a: behind the last one that holds another value -/
def wf_ss (va : Nat → Int64) (v : Int64) (a : Nat) : Nat → Nat
  | 0 => a
  | n + 1 => if va (a + n) = v then wf_ss va v a n else a + n + 1
theorem wf_fb_le (ti : Nat → Int64) (t : Int64) : ∀ n a : Nat, a ≤ wf_fb ti t n a ∧ wf_fb ti t n a ≤ a + n := by
  intro n
  induction n with
  | zero => intro a; exact ⟨Nat.le_refl a, Nat.le_refl a⟩
  | succ n ih =>
    intro a
    unfold wf_fb
    split
    · have h := ih (a + 1)
      omega
    · omega
theorem wf_ss_le (va : Nat → Int64) (v : Int64) (a : Nat) : ∀ n : Nat, a ≤ wf_ss va v a n ∧ wf_ss va v a n ≤ a + n := by
  intro n
  induction n with
  | zero => exact ⟨Nat.le_refl a, Nat.le_refl a⟩
  | succ n ih =>
    unfold wf_ss
    split
    · omega
    · omega
def wf_act (ad : Nat → Int32) (ac : Nat) (i : Int32) : Int32 := if ¬ i < 0 ∧ ¬ nI ac ≤ i then ad i.toNatClampNeg else -1
def wf_lim (mo : Int32) (f t : Int64) : Int64 := if mo = 0 then f else if mo = 2 then t else 0
def wf_lg (mo : Int32) (f t : Int64) : Prop := (mo = 2 ∧ ¬ t < 0 ∧ ¬ f < t) ∨ mo = 0 ∨ mo = 1
/-- the delays rise from b on, and no time is above 2^60 -/
def wf_dg (ed : Nat → Int64) (now : Int64) : Nat → Nat → Int64 → Prop
  | 0, _, _ => True
  | n + 1, i, b => ¬ ed i ≤ b ∧ now + ed i ≤ 1152921504606846976 ∧ wf_dg ed now n (i + 1) (ed i)
/-- the least first time of n rows from d on, and le -/
def wf_nx (r : Nat → Nat) (ti : Nat → Int64) : Nat → Nat → Int64 → Int64
  | 0, _, le => le
  | n + 1, d, le => wf_nx r ti n (d + 1) (if r (d + 1) - r d = 0 then le else if le = -1 then ti (r d) else if ti (r d) < le then ti (r d) else le)
/-! what the throws ask of the start -/
def xt_rt : List String := ["java/lang/RuntimeException", "java/lang/Exception"]
def xt_heap : List Cond := [.laysStatic Bundle.tN "UNASSIGNED_STACK" Bundle.steD, .laysStatic Bundle.tN "SUPPRESSED_SENTINEL" Bundle.listD, .isRef (.static Bundle.tN "UNASSIGNED_STACK" Bundle.steD), .isRef (.static Bundle.tN "SUPPRESSED_SENTINEL" Bundle.listD)]
def xt_lk : List Cond := [.classLink RX0 47 "java/lang/IllegalArgumentException", .classLink RX0 57 "java/lang/IllegalStateException", .classLink RX0 120 "java/lang/IndexOutOfBoundsException", .initialized "java/lang/IllegalArgumentException", .initialized "java/lang/IllegalStateException", .initialized "java/lang/IndexOutOfBoundsException"]
def xt_all : List Cond := xt_lk ++ (Bundle.ownAtoms RX0 51 "java/lang/IllegalArgumentException" xt_rt ++ (Bundle.ownAtoms RX0 61 "java/lang/IllegalStateException" xt_rt ++ Bundle.ownAtoms RX0 124 "java/lang/IndexOutOfBoundsException" xt_rt))
theorem xt_in1 : ∀ w ∈ Bundle.ownAtoms RX0 51 "java/lang/IllegalArgumentException" xt_rt, w ∈ xt_all := fun _ h => List.mem_append_right _ (List.mem_append_left _ h)
theorem xt_in2 : ∀ w ∈ Bundle.ownAtoms RX0 61 "java/lang/IllegalStateException" xt_rt, w ∈ xt_all := fun _ h => List.mem_append_right _ (List.mem_append_right _ (List.mem_append_left _ h))
theorem xt_in3 : ∀ w ∈ Bundle.ownAtoms RX0 124 "java/lang/IndexOutOfBoundsException" xt_rt, w ∈ xt_all := fun _ h => List.mem_append_right _ (List.mem_append_right _ (List.mem_append_right _ h))
def xt_strs : List (Nat × String) := [(49, "the delay is below 0 or above 2^60"), (59, "there are 16 elements"), (66, "no element is laid down"), (76, "the mode, the limit or the delays are wrong"), (93, "there is no room for so many transactions"), (110, "the time is before NOW or above 2^60"), (122, "there is no such transaction"), (125, "the time is before NOW"), (127, "there is no such driver")]
def xt_ok (U : State) : Prop := (∀ w ∈ xt_all, w.before #[] U = true) ∧ ∀ q ∈ xt_strs, ∃ a : Nat, vk_R RX0 q.1 q.2 a U
set_option maxRecDepth 20000 in
theorem xt_kind : ∀ w ∈ xt_all, (w.onTables && w.keepsCast) = true ∨ w ∈ xt_heap := by decide +kernel
theorem xt_w {args a' : Array Value} {s U : State} {w : Cond} (hW : s.WarmedH U.vm) (ht : w.onTables = true) (hk : w.keepsCast = true) (h : w.before args s = true) : w.before a' U = true := by
  have h1 := Cond.before_shiftedCast (State.Shifted.of_warmed hW) w hk h
  rw [Cond.onTables_vm (A' := a') (U' := U) U.vm w ht] at h1
  exact h1
theorem xt_lays {C n d : String} {args a' : Array Value} {s U : State} (hvm : s.vm.Alike U.vm) (hh : ∀ q : Nat, q < s.heap.size → U.heap[q]? = s.heap[q]?) (h : (Cond.laysStatic C n d).before args s = true) : (Cond.laysStatic C n d).before a' U = true := by
  obtain ⟨c, k, i, f, a, cell, h1, h2, h3, h4, h5, h6, h7, h8, h9⟩ := Cond.laysStatic_spec h
  obtain ⟨k', hi', he⟩ := State.fieldFound?_setVm hvm h2
  show (Cond.laysStatic C n d).holds a' U none U [] = true
  exact Cond.laysStatic_of (by rw [hvm.findClass]; exact h1) hi' h3 (by rw [he]; exact h4) (by rw [hh a (Array.getElem?_eq_some_iff.mp h5).1]; exact h5) h6 h7 h8 (by rw [he]; exact h9)
theorem xt_ref {C n d : String} {args a' : Array Value} {s U : State} (hvm : s.vm.Alike U.vm) (hh : ∀ q : Nat, q < s.heap.size → U.heap[q]? = s.heap[q]?) (hl : (Cond.laysStatic C n d).before args s = true) (hini : (Cond.initialized C).before args s = true) (h : (Cond.isRef (.static C n d)).before args s = true) : (Cond.isRef (.static C n d)).before a' U = true := by
  have z : va_Zq C n d (fun _ => False) U U.heap := va_Zq.moved hvm ((va_Zqof (A := fun _ => False) hl hini h (fun _ _ => id)).kept (fun q hq _ => hh q hq))
  have go : ∀ v : Value, v.isRef = true → va_Z C n d v (fun _ => False) U U.heap → (Cond.isRef (.static C n d)).before a' U = true := by
    intro v hv z
    obtain ⟨cf, kf, fi, f, a, cell, h1, h2, h3, h4, h5, h6, h7, -⟩ := z
    have he : (Term.static C n d).eval a' U none [] U = some v := by
      simp [Term.eval, State.fieldNamed?, h1, h2, h4, h5, h6, h7]
    simp only [Cond.before, Cond.holds, Cond.value, he]
    cases v <;> simp_all [Value.isRef]
  rcases z with z | ⟨t, z⟩
  · exact go _ rfl z
  · exact go _ rfl z
theorem xt_mv {args a' : Array Value} {s U : State} (hW : s.WarmedH U.vm) (hh : ∀ q : Nat, q < s.heap.size → U.heap[q]? = s.heap[q]?) (h : ∀ w ∈ xt_all, w.before args s = true) : ∀ w ∈ xt_all, w.before a' U = true := by
  intro w hw
  have hl1 : (Cond.laysStatic Bundle.tN "UNASSIGNED_STACK" Bundle.steD).before args s = true := h _ (xt_in1 _ (by simp [Bundle.ownAtoms, Bundle.throwableAtoms]))
  have hl2 : (Cond.laysStatic Bundle.tN "SUPPRESSED_SENTINEL" Bundle.listD).before args s = true := h _ (xt_in1 _ (by simp [Bundle.ownAtoms, Bundle.throwableAtoms]))
  have hini : (Cond.initialized Bundle.tN).before args s = true := h _ (xt_in1 _ (by simp [Bundle.ownAtoms, Bundle.throwableAtoms]))
  rcases xt_kind w hw with hk | hk
  · rw [Bool.and_eq_true] at hk
    exact xt_w hW hk.1 hk.2 (h w hw)
  · have h0 := h w hw
    simp only [xt_heap, List.mem_cons, List.not_mem_nil, or_false] at hk
    rcases hk with rfl | rfl | rfl | rfl
    · exact xt_lays hW.alike hh hl1
    · exact xt_lays hW.alike hh hl2
    · exact xt_ref hW.alike hh hl1 hini h0
    · exact xt_ref hW.alike hh hl2 hini h0
theorem xt_move {s U : State} (hW : s.WarmedH U.vm) (hh : ∀ q : Nat, q < s.heap.size → U.heap[q]? = s.heap[q]?) (h : xt_ok s) : xt_ok U :=
  ⟨xt_mv hW hh h.1, fun q hq => by obtain ⟨a, ha⟩ := h.2 q hq; exact ⟨a, vk_R.warm hW ha⟩⟩
theorem xt_at {args : Array Value} {s : State} (h : xt_ok s) : ∀ w ∈ xt_all, w.before args s = true := xt_mv (State.WarmedH.refl s) (fun _ _ => rfl) h.1
theorem xk_blind {As : List Value} {D : va_G} {cl : List vw_C} {ws : va_W} {tys : List (ClassId × FieldType)} : FrameBlind (va_Pc As (fun U => va_P D cl ws U.heap ∧ va_K D cl tys U ∧ xt_ok U)) := fun a U g mk q => by
  obtain ⟨q0, qP, qK, qO⟩ := q
  exact ⟨q0, qP, va_K.moved (u := U) (U := U.calling g mk a) (Vm.Alike.refl U.vm) qK, xt_move (s := U) (U := U.calling g mk a) (State.WarmedH.refl U) (fun _ _ => rfl) qO⟩
/-- n values g 0, g 1 .. from place f on -/
def wf_pt (ti : Nat → Int64) (f : Nat) (g : Nat → Int64) (n : Nat) : Nat → Int64 := fun j => if f ≤ j ∧ j < f + n then g (j - f) else ti j
theorem wf_pt_0 (ti : Nat → Int64) (f : Nat) (g : Nat → Int64) : wf_pt ti f g 0 = ti := by
  funext j
  exact if_neg (by omega)
theorem wf_pt_s (ti : Nat → Int64) (f : Nat) (g : Nat → Int64) (n : Nat) : vp_updL (wf_pt ti f g n) (f + n) (g n) = wf_pt ti f g (n + 1) := by
  funext j
  unfold vp_updL wf_pt
  by_cases h : j = f + n
  · subst h
    rw [if_pos rfl, if_pos (by omega), show f + n - f = n by omega]
  · rw [if_neg h]
    by_cases h2 : f ≤ j ∧ j < f + n
    · rw [if_pos h2, if_pos (by omega)]
    · rw [if_neg h2, if_neg (by omega)]
/-- the rows behind d begin elsewhere: those up to k, by what lies between o and e -/
def wf_sh (r : Nat → Nat) (d e o k : Nat) : Nat → Nat := fun j => if d < j ∧ j < k then r j + e - o else r j
theorem wf_sh_0 (r : Nat → Nat) (d e o : Nat) : wf_sh r d e o (d + 1) = r := by
  funext j
  exact if_neg (by omega)
theorem wf_sh_s (r : Nat → Nat) (d e o k : Nat) (h : d < k) : un (wf_sh r d e o k) k (r k + e - o) = wf_sh r d e o (k + 1) := by
  funext j
  unfold un wf_sh
  by_cases q : j = k
  · subst q
    rw [if_pos rfl, if_pos (by omega)]
  · rw [if_neg q]
    by_cases q2 : d < j ∧ j < k
    · rw [if_pos q2, if_pos (by omega)]
    · rw [if_neg q2, if_neg (by omega)]
theorem wf_sh_at (r : Nat → Nat) (d e o k : Nat) : wf_sh r d e o k k = r k := if_neg (by omega)
end
