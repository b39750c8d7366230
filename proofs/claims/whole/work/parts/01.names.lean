-- ===== PART A: goes FIRST, ahead of the names: the tables' words, and 'selects' of the private methods out of them =====
/-- a private method of a class that the tables say can be made, by its rows of tables_1 -/
def lw_okq (q : MethodName × Nat) : Prop := (q.1.cls ≠ "java/lang/invoke/MethodHandle" ∧ q.1.cls ≠ "java/lang/invoke/VarHandle") ∧ Cond.instantiable q.1.cls q.2 ∈ tables_1 ∧ Cond.privateMethod q.1 ∈ tables_1 ∧ Cond.instanceMethod q.1 ∈ tables_1
theorem lw_p0 : lw_okq (⟨"FontMetrics$ByteFile", "put", "(I)V"⟩, 2) := ⟨⟨by decide +kernel, by decide +kernel⟩, List.mem_of_getElem? (i := 24) (by decide +kernel), List.mem_of_getElem? (i := 130) (by decide +kernel), List.mem_of_getElem? (i := 131) (by decide +kernel)⟩
theorem lw_p1 : lw_okq (⟨"java/lang/Throwable", "fillInStackTrace", "(I)Ljava/lang/Throwable;"⟩, 6) := ⟨⟨by decide +kernel, by decide +kernel⟩, List.mem_of_getElem? (i := 240) (by decide +kernel), List.mem_of_getElem? (i := 238) (by decide +kernel), List.mem_of_getElem? (i := 239) (by decide +kernel)⟩
theorem lw_p2 : lw_okq (⟨"FontMetrics$Font", "lengthByNumbers", "(I)I"⟩, 8) := ⟨⟨by decide +kernel, by decide +kernel⟩, List.mem_of_getElem? (i := 64) (by decide +kernel), List.mem_of_getElem? (i := 285) (by decide +kernel), List.mem_of_getElem? (i := 286) (by decide +kernel)⟩
theorem lw_p3 : lw_okq (⟨"FontMetrics", "requireFont", "()V"⟩, 7) := ⟨⟨by decide +kernel, by decide +kernel⟩, List.mem_of_getElem? (i := 16) (by decide +kernel), List.mem_of_getElem? (i := 393) (by decide +kernel), List.mem_of_getElem? (i := 394) (by decide +kernel)⟩
theorem lw_p4 : lw_okq (⟨"FontMetrics", "requireThere", "(I)V"⟩, 7) := ⟨⟨by decide +kernel, by decide +kernel⟩, List.mem_of_getElem? (i := 16) (by decide +kernel), List.mem_of_getElem? (i := 444) (by decide +kernel), List.mem_of_getElem? (i := 445) (by decide +kernel)⟩
theorem lw_p5 : lw_okq (⟨"FontMetrics", "requireThereOrEdge", "(I)V"⟩, 7) := ⟨⟨by decide +kernel, by decide +kernel⟩, List.mem_of_getElem? (i := 16) (by decide +kernel), List.mem_of_getElem? (i := 494) (by decide +kernel), List.mem_of_getElem? (i := 495) (by decide +kernel)⟩
theorem lw_p6 : lw_okq (⟨"FontMetrics$Font", "programStart", "(I)I"⟩, 8) := ⟨⟨by decide +kernel, by decide +kernel⟩, List.mem_of_getElem? (i := 64) (by decide +kernel), List.mem_of_getElem? (i := 502) (by decide +kernel), List.mem_of_getElem? (i := 503) (by decide +kernel)⟩
theorem lw_p7 : lw_okq (⟨"FontMetrics", "rowIsThere", "()Z"⟩, 7) := ⟨⟨by decide +kernel, by decide +kernel⟩, List.mem_of_getElem? (i := 16) (by decide +kernel), List.mem_of_getElem? (i := 521) (by decide +kernel), List.mem_of_getElem? (i := 522) (by decide +kernel)⟩
theorem lw_p8 : lw_okq (⟨"FontMetrics$Line", "push", "(I)V"⟩, 5) := ⟨⟨by decide +kernel, by decide +kernel⟩, List.mem_of_getElem? (i := 40) (by decide +kernel), List.mem_of_getElem? (i := 530) (by decide +kernel), List.mem_of_getElem? (i := 531) (by decide +kernel)⟩
theorem lw_p9 : lw_okq (⟨"FontMetrics$Line", "step", "(LFontMetrics$Font;)V"⟩, 5) := ⟨⟨by decide +kernel, by decide +kernel⟩, List.mem_of_getElem? (i := 40) (by decide +kernel), List.mem_of_getElem? (i := 540) (by decide +kernel), List.mem_of_getElem? (i := 541) (by decide +kernel)⟩
theorem lw_p10 : lw_okq (⟨"FontMetrics$Line", "pendingAt", "(I)I"⟩, 5) := ⟨⟨by decide +kernel, by decide +kernel⟩, List.mem_of_getElem? (i := 40) (by decide +kernel), List.mem_of_getElem? (i := 544) (by decide +kernel), List.mem_of_getElem? (i := 545) (by decide +kernel)⟩
theorem lw_p11 : lw_okq (⟨"FontMetrics$Line", "pass", "(I)V"⟩, 5) := ⟨⟨by decide +kernel, by decide +kernel⟩, List.mem_of_getElem? (i := 40) (by decide +kernel), List.mem_of_getElem? (i := 549) (by decide +kernel), List.mem_of_getElem? (i := 550) (by decide +kernel)⟩
theorem lw_p12 : lw_okq (⟨"FontMetrics$Line", "append", "(IZ)V"⟩, 5) := ⟨⟨by decide +kernel, by decide +kernel⟩, List.mem_of_getElem? (i := 40) (by decide +kernel), List.mem_of_getElem? (i := 553) (by decide +kernel), List.mem_of_getElem? (i := 554) (by decide +kernel)⟩
theorem lw_p13 : lw_okq (⟨"FontMetrics$Line", "join", "(III)V"⟩, 5) := ⟨⟨by decide +kernel, by decide +kernel⟩, List.mem_of_getElem? (i := 40) (by decide +kernel), List.mem_of_getElem? (i := 562) (by decide +kernel), List.mem_of_getElem? (i := 563) (by decide +kernel)⟩
theorem lw_p14 : lw_okq (⟨"FontMetrics", "requireItem", "(I)V"⟩, 7) := ⟨⟨by decide +kernel, by decide +kernel⟩, List.mem_of_getElem? (i := 16) (by decide +kernel), List.mem_of_getElem? (i := 574) (by decide +kernel), List.mem_of_getElem? (i := 575) (by decide +kernel)⟩
theorem lw_p15 : lw_okq (⟨"FontMetricsModel", "fault", "()I"⟩, 11) := ⟨⟨by decide +kernel, by decide +kernel⟩, List.mem_of_getElem? (i := 588) (by decide +kernel), List.mem_of_getElem? (i := 645) (by decide +kernel), List.mem_of_getElem? (i := 646) (by decide +kernel)⟩
def lw_privs_1 : List (MethodName × Nat) := [(⟨"FontMetrics$ByteFile", "put", "(I)V"⟩, 2), (⟨"java/lang/Throwable", "fillInStackTrace", "(I)Ljava/lang/Throwable;"⟩, 6), (⟨"FontMetrics$Font", "lengthByNumbers", "(I)I"⟩, 8), (⟨"FontMetrics", "requireFont", "()V"⟩, 7), (⟨"FontMetrics", "requireThere", "(I)V"⟩, 7), (⟨"FontMetrics", "requireThereOrEdge", "(I)V"⟩, 7), (⟨"FontMetrics$Font", "programStart", "(I)I"⟩, 8), (⟨"FontMetrics", "rowIsThere", "()Z"⟩, 7), (⟨"FontMetrics$Line", "push", "(I)V"⟩, 5), (⟨"FontMetrics$Line", "step", "(LFontMetrics$Font;)V"⟩, 5), (⟨"FontMetrics$Line", "pendingAt", "(I)I"⟩, 5), (⟨"FontMetrics$Line", "pass", "(I)V"⟩, 5), (⟨"FontMetrics$Line", "append", "(IZ)V"⟩, 5), (⟨"FontMetrics$Line", "join", "(III)V"⟩, 5), (⟨"FontMetrics", "requireItem", "(I)V"⟩, 7), (⟨"FontMetricsModel", "fault", "()I"⟩, 11)]
theorem lw_r1 : ∀ q ∈ lw_privs_1, lw_okq q := List.forall_mem_cons.mpr ⟨lw_p0, List.forall_mem_cons.mpr ⟨lw_p1, List.forall_mem_cons.mpr ⟨lw_p2, List.forall_mem_cons.mpr ⟨lw_p3, List.forall_mem_cons.mpr ⟨lw_p4, List.forall_mem_cons.mpr ⟨lw_p5, List.forall_mem_cons.mpr ⟨lw_p6, List.forall_mem_cons.mpr ⟨lw_p7, List.forall_mem_cons.mpr ⟨lw_p8, List.forall_mem_cons.mpr ⟨lw_p9, List.forall_mem_cons.mpr ⟨lw_p10, List.forall_mem_cons.mpr ⟨lw_p11, List.forall_mem_cons.mpr ⟨lw_p12, List.forall_mem_cons.mpr ⟨lw_p13, List.forall_mem_cons.mpr ⟨lw_p14, List.forall_mem_cons.mpr ⟨lw_p15, fun _ h => absurd h List.not_mem_nil⟩⟩⟩⟩⟩⟩⟩⟩⟩⟩⟩⟩⟩⟩⟩⟩
theorem lw_p16 : lw_okq (⟨"FontMetricsModel", "areNumbersSmall", "()Z"⟩, 11) := ⟨⟨by decide +kernel, by decide +kernel⟩, List.mem_of_getElem? (i := 588) (by decide +kernel), List.mem_of_getElem? (i := 649) (by decide +kernel), List.mem_of_getElem? (i := 650) (by decide +kernel)⟩
theorem lw_p17 : lw_okq (⟨"FontMetricsModel", "sizeOf", "(II)I"⟩, 11) := ⟨⟨by decide +kernel, by decide +kernel⟩, List.mem_of_getElem? (i := 588) (by decide +kernel), List.mem_of_getElem? (i := 723) (by decide +kernel), List.mem_of_getElem? (i := 724) (by decide +kernel)⟩
theorem lw_p18 : lw_okq (⟨"FontMetricsModel", "scaled", "(II)I"⟩, 11) := ⟨⟨by decide +kernel, by decide +kernel⟩, List.mem_of_getElem? (i := 588) (by decide +kernel), List.mem_of_getElem? (i := 727) (by decide +kernel), List.mem_of_getElem? (i := 728) (by decide +kernel)⟩
theorem lw_p19 : lw_okq (⟨"FontMetricsModel", "mayAsk", "(I)Z"⟩, 11) := ⟨⟨by decide +kernel, by decide +kernel⟩, List.mem_of_getElem? (i := 588) (by decide +kernel), List.mem_of_getElem? (i := 747) (by decide +kernel), List.mem_of_getElem? (i := 748) (by decide +kernel)⟩
theorem lw_p20 : lw_okq (⟨"FontMetricsModel", "found", "(II)I"⟩, 11) := ⟨⟨by decide +kernel, by decide +kernel⟩, List.mem_of_getElem? (i := 588) (by decide +kernel), List.mem_of_getElem? (i := 751) (by decide +kernel), List.mem_of_getElem? (i := 752) (by decide +kernel)⟩
theorem lw_p21 : lw_okq (⟨"FontMetricsModel", "insert", "(III)V"⟩, 11) := ⟨⟨by decide +kernel, by decide +kernel⟩, List.mem_of_getElem? (i := 588) (by decide +kernel), List.mem_of_getElem? (i := 763) (by decide +kernel), List.mem_of_getElem? (i := 764) (by decide +kernel)⟩
theorem lw_p22 : lw_okq (⟨"FontMetricsModel", "step", "(I)I"⟩, 11) := ⟨⟨by decide +kernel, by decide +kernel⟩, List.mem_of_getElem? (i := 588) (by decide +kernel), List.mem_of_getElem? (i := 767) (by decide +kernel), List.mem_of_getElem? (i := 768) (by decide +kernel)⟩
theorem lw_p23 : lw_okq (⟨"FontMetricsModel", "remove", "(I)V"⟩, 11) := ⟨⟨by decide +kernel, by decide +kernel⟩, List.mem_of_getElem? (i := 588) (by decide +kernel), List.mem_of_getElem? (i := 771) (by decide +kernel), List.mem_of_getElem? (i := 772) (by decide +kernel)⟩
def lw_privs_2 : List (MethodName × Nat) := [(⟨"FontMetricsModel", "areNumbersSmall", "()Z"⟩, 11), (⟨"FontMetricsModel", "sizeOf", "(II)I"⟩, 11), (⟨"FontMetricsModel", "scaled", "(II)I"⟩, 11), (⟨"FontMetricsModel", "mayAsk", "(I)Z"⟩, 11), (⟨"FontMetricsModel", "found", "(II)I"⟩, 11), (⟨"FontMetricsModel", "insert", "(III)V"⟩, 11), (⟨"FontMetricsModel", "step", "(I)I"⟩, 11), (⟨"FontMetricsModel", "remove", "(I)V"⟩, 11)]
theorem lw_r2 : ∀ q ∈ lw_privs_2, lw_okq q := List.forall_mem_cons.mpr ⟨lw_p16, List.forall_mem_cons.mpr ⟨lw_p17, List.forall_mem_cons.mpr ⟨lw_p18, List.forall_mem_cons.mpr ⟨lw_p19, List.forall_mem_cons.mpr ⟨lw_p20, List.forall_mem_cons.mpr ⟨lw_p21, List.forall_mem_cons.mpr ⟨lw_p22, List.forall_mem_cons.mpr ⟨lw_p23, fun _ h => absurd h List.not_mem_nil⟩⟩⟩⟩⟩⟩⟩⟩
def lw_privs : List (MethodName × Nat) := lw_privs_1 ++ (lw_privs_2)
def lw_tbl : List Cond := k2_sels lw_privs ++ tables_1
theorem lw_privs_ok : ∀ q ∈ lw_privs, lw_okq q := by
  show ∀ q ∈ lw_privs_1 ++ (lw_privs_2), lw_okq q
  exact List.forall_mem_append.mpr ⟨lw_r1, lw_r2⟩
def R_BF : String := "FontMetrics$ByteFile"
def R_FA : String := "FontMetrics$Faults"
def R_FO : String := "FontMetrics$Font"
def R_LI : String := "FontMetrics$Line"
def R_FM : String := "FontMetrics"
def R_MO : String := "FontMetricsModel"
def R_LW : String := "FontMetricsLaw"
def F_BF : u_T := fun k => match k with
  | 0 => ("FontMetrics$ByteFile", "words", "[I", true)
  | _ => ("FontMetrics$ByteFile", "length", "I", false)
def t_BF : Nat → FieldType := fun k => match k with
  | 0 => .array .int
  | _ => .int
theorem n_BF : ∀ a, a < 2 → ∀ b, b < 2 → a ≠ b → (F_BF a).2.1 ≠ (F_BF b).2.1 := by decide +kernel
theorem t_BF_ok : ∀ k, k < 2 → parseFieldDescriptor (F_BF k).2.2.1 = some (t_BF k) := by decide +kernel
def F_FO : u_T := fun k => match k with
  | 0 => ("FontMetrics$Font", "words", "[I", true)
  | 1 => ("FontMetrics$Font", "starts", "[I", true)
  | 2 => ("FontMetrics$Font", "lengths", "[I", true)
  | 3 => ("FontMetrics$Font", "bc", "I", false)
  | 4 => ("FontMetrics$Font", "ec", "I", false)
  | 5 => ("FontMetrics$Font", "size", "I", false)
  | 6 => ("FontMetrics$Font", "scale", "I", false)
  | _ => ("FontMetrics$Font", "halvings", "I", false)
def t_FO : Nat → FieldType := fun k => match k with
  | 0 => .array .int
  | 1 => .array .int
  | 2 => .array .int
  | 3 => .int
  | 4 => .int
  | 5 => .int
  | 6 => .int
  | _ => .int
theorem n_FO : ∀ a, a < 8 → ∀ b, b < 8 → a ≠ b → (F_FO a).2.1 ≠ (F_FO b).2.1 := by decide +kernel
theorem t_FO_ok : ∀ k, k < 8 → parseFieldDescriptor (F_FO k).2.2.1 = some (t_FO k) := by decide +kernel
def F_LI : u_T := fun k => match k with
  | 0 => ("FontMetrics$Line", "pending", "[I", true)
  | 1 => ("FontMetrics$Line", "values", "[I", true)
  | 2 => ("FontMetrics$Line", "kerns", "[Z", true)
  | 3 => ("FontMetrics$Line", "left", "I", false)
  | _ => ("FontMetrics$Line", "count", "I", false)
def t_LI : Nat → FieldType := fun k => match k with
  | 0 => .array .int
  | 1 => .array .int
  | 2 => .array .boolean
  | 3 => .int
  | _ => .int
theorem n_LI : ∀ a, a < 5 → ∀ b, b < 5 → a ≠ b → (F_LI a).2.1 ≠ (F_LI b).2.1 := by decide +kernel
theorem t_LI_ok : ∀ k, k < 5 → parseFieldDescriptor (F_LI k).2.2.1 = some (t_LI k) := by decide +kernel
def F_FM : u_T := fun k => match k with
  | 0 => ("FontMetrics", "file", "LFontMetrics$ByteFile;", true)
  | 1 => ("FontMetrics", "line", "LFontMetrics$Line;", true)
  | 2 => ("FontMetrics", "row", "[I", true)
  | 3 => ("FontMetrics", "rowLength", "I", false)
  | 4 => ("FontMetrics", "font", "LFontMetrics$Font;", false)
  | 5 => ("FontMetrics", "spare", "LFontMetrics$Font;", false)
  | _ => ("FontMetrics", "loaded", "Z", false)
def t_FM : Nat → FieldType := fun k => match k with
  | 0 => .object "FontMetrics$ByteFile"
  | 1 => .object "FontMetrics$Line"
  | 2 => .array .int
  | 3 => .int
  | 4 => .object "FontMetrics$Font"
  | 5 => .object "FontMetrics$Font"
  | _ => .boolean
theorem n_FM : ∀ a, a < 7 → ∀ b, b < 7 → a ≠ b → (F_FM a).2.1 ≠ (F_FM b).2.1 := by decide +kernel
theorem t_FM_ok : ∀ k, k < 7 → parseFieldDescriptor (F_FM k).2.2.1 = some (t_FM k) := by decide +kernel
def F_MO : u_T := fun k => match k with
  | 0 => ("FontMetricsModel", "thrown", "I", false)
  | 1 => ("FontMetricsModel", "file", "[B", true)
  | 2 => ("FontMetricsModel", "fileSize", "I", false)
  | 3 => ("FontMetricsModel", "font", "[B", true)
  | 4 => ("FontMetricsModel", "loaded", "Z", false)
  | 5 => ("FontMetricsModel", "size", "I", false)
  | 6 => ("FontMetricsModel", "row", "[B", true)
  | 7 => ("FontMetricsModel", "rowSize", "I", false)
  | 8 => ("FontMetricsModel", "kinds", "[I", true)
  | 9 => ("FontMetricsModel", "wide", "[I", true)
  | _ => ("FontMetricsModel", "count", "I", false)
def t_MO : Nat → FieldType := fun k => match k with
  | 0 => .int
  | 1 => .array .byte
  | 2 => .int
  | 3 => .array .byte
  | 4 => .boolean
  | 5 => .int
  | 6 => .array .byte
  | 7 => .int
  | 8 => .array .int
  | 9 => .array .int
  | _ => .int
theorem n_MO : ∀ a, a < 11 → ∀ b, b < 11 → a ≠ b → (F_MO a).2.1 ≠ (F_MO b).2.1 := by decide +kernel
theorem t_MO_ok : ∀ k, k < 11 → parseFieldDescriptor (F_MO k).2.2.1 = some (t_MO k) := by decide +kernel
abbrev classes : List vw_C := [(R_BF, F_BF, 2), (R_FO, F_FO, 8), (R_LI, F_LI, 5), (R_FM, F_FM, 7), (R_MO, F_MO, 11)]
def y_FM_init : MethodName := ⟨R_FM, "<init>", "()V"⟩
abbrev b_FM_init : ByteArray := prog_1_method_1_code
def y_FM_feed : MethodName := ⟨R_FM, "feed", "(JI)Z"⟩
abbrev b_FM_feed : ByteArray := prog_1_method_2_code
def y_FM_keep : MethodName := ⟨R_FM, "keep", "(I)Z"⟩
abbrev b_FM_keep : ByteArray := prog_1_method_3_code
def y_FM_load : MethodName := ⟨R_FM, "load", "(I)I"⟩
abbrev b_FM_load : ByteArray := prog_1_method_4_code
def y_FM_about : MethodName := ⟨R_FM, "about", "(I)I"⟩
abbrev b_FM_about : ByteArray := prog_1_method_5_code
def y_FM_has : MethodName := ⟨R_FM, "has", "(I)Z"⟩
abbrev b_FM_has : ByteArray := prog_1_method_6_code
def y_FM_of : MethodName := ⟨R_FM, "of", "(II)I"⟩
abbrev b_FM_of : ByteArray := prog_1_method_7_code
def y_FM_part : MethodName := ⟨R_FM, "part", "(II)I"⟩
abbrev b_FM_part : ByteArray := prog_1_method_8_code
def y_FM_parameter : MethodName := ⟨R_FM, "parameter", "(I)I"⟩
abbrev b_FM_parameter : ByteArray := prog_1_method_9_code
def y_FM_ask : MethodName := ⟨R_FM, "ask", "(II)I"⟩
abbrev b_FM_ask : ByteArray := prog_1_method_10_code
def y_FM_add : MethodName := ⟨R_FM, "add", "(I)Z"⟩
abbrev b_FM_add : ByteArray := prog_1_method_11_code
def y_FM_set : MethodName := ⟨R_FM, "set", "()I"⟩
abbrev b_FM_set : ByteArray := prog_1_method_12_code
def y_FM_isKern : MethodName := ⟨R_FM, "isKern", "(I)Z"⟩
abbrev b_FM_isKern : ByteArray := prog_1_method_13_code
def y_FM_item : MethodName := ⟨R_FM, "item", "(I)I"⟩
abbrev b_FM_item : ByteArray := prog_1_method_14_code
def y_FM_total : MethodName := ⟨R_FM, "total", "()J"⟩
abbrev b_FM_total : ByteArray := prog_1_method_15_code
def y_FM_rowIsThere : MethodName := ⟨R_FM, "rowIsThere", "()Z"⟩
abbrev b_FM_rowIsThere : ByteArray := prog_1_method_16_code
def y_FM_requireFont : MethodName := ⟨R_FM, "requireFont", "()V"⟩
abbrev b_FM_requireFont : ByteArray := prog_1_method_17_code
def y_FM_requireThere : MethodName := ⟨R_FM, "requireThere", "(I)V"⟩
abbrev b_FM_requireThere : ByteArray := prog_1_method_18_code
def y_FM_requireThereOrEdge : MethodName := ⟨R_FM, "requireThereOrEdge", "(I)V"⟩
abbrev b_FM_requireThereOrEdge : ByteArray := prog_1_method_19_code
def y_FM_requireItem : MethodName := ⟨R_FM, "requireItem", "(I)V"⟩
abbrev b_FM_requireItem : ByteArray := prog_1_method_20_code
def y_MO_init : MethodName := ⟨R_MO, "<init>", "()V"⟩
abbrev b_MO_init : ByteArray := prog_7_method_1_code
def y_MO_thrown : MethodName := ⟨R_MO, "thrown", "()I"⟩
abbrev b_MO_thrown : ByteArray := prog_7_method_2_code
def y_MO_feed : MethodName := ⟨R_MO, "feed", "(JI)Z"⟩
abbrev b_MO_feed : ByteArray := prog_7_method_3_code
def y_MO_keep : MethodName := ⟨R_MO, "keep", "(I)Z"⟩
abbrev b_MO_keep : ByteArray := prog_7_method_4_code
def y_MO_half : MethodName := ⟨R_MO, "half", "([BI)I"⟩
abbrev b_MO_half : ByteArray := prog_7_method_5_code
def y_MO_words : MethodName := ⟨R_MO, "words", "([BI)I"⟩
abbrev b_MO_words : ByteArray := prog_7_method_6_code
def y_MO_start : MethodName := ⟨R_MO, "start", "([BI)I"⟩
abbrev b_MO_start : ByteArray := prog_7_method_7_code
def y_MO_at : MethodName := ⟨R_MO, "at", "([BIII)I"⟩
abbrev b_MO_at : ByteArray := prog_7_method_8_code
def y_MO_far : MethodName := ⟨R_MO, "far", "([BI)I"⟩
abbrev b_MO_far : ByteArray := prog_7_method_9_code
def y_MO_isThere : MethodName := ⟨R_MO, "isThere", "([BI)Z"⟩
abbrev b_MO_isThere : ByteArray := prog_7_method_10_code
def y_MO_tag : MethodName := ⟨R_MO, "tag", "([BI)I"⟩
abbrev b_MO_tag : ByteArray := prog_7_method_11_code
def y_MO_rest : MethodName := ⟨R_MO, "rest", "([BI)I"⟩
abbrev b_MO_rest : ByteArray := prog_7_method_12_code
def y_MO_edgeOf : MethodName := ⟨R_MO, "edgeOf", "([B)I"⟩
abbrev b_MO_edgeOf : ByteArray := prog_7_method_13_code
def y_MO_edgeProgram : MethodName := ⟨R_MO, "edgeProgram", "([B)I"⟩
abbrev b_MO_edgeProgram : ByteArray := prog_7_method_14_code
def y_MO_areNumbersSmall : MethodName := ⟨R_MO, "areNumbersSmall", "()Z"⟩
abbrev b_MO_areNumbersSmall : ByteArray := prog_7_method_15_code
def y_MO_areSizesRight : MethodName := ⟨R_MO, "areSizesRight", "([B)Z"⟩
abbrev b_MO_areSizesRight : ByteArray := prog_7_method_16_code
def y_MO_isLargerRight : MethodName := ⟨R_MO, "isLargerRight", "([BI)Z"⟩
abbrev b_MO_isLargerRight : ByteArray := prog_7_method_17_code
def y_MO_areTagsRight : MethodName := ⟨R_MO, "areTagsRight", "([B)Z"⟩
abbrev b_MO_areTagsRight : ByteArray := prog_7_method_18_code
def y_MO_areFractions : MethodName := ⟨R_MO, "areFractions", "([BII)Z"⟩
abbrev b_MO_areFractions : ByteArray := prog_7_method_19_code
def y_MO_areTablesRight : MethodName := ⟨R_MO, "areTablesRight", "([B)Z"⟩
abbrev b_MO_areTablesRight : ByteArray := prog_7_method_20_code
def y_MO_isWordRight : MethodName := ⟨R_MO, "isWordRight", "([BI)Z"⟩
abbrev b_MO_isWordRight : ByteArray := prog_7_method_21_code
def y_MO_isProgramRight : MethodName := ⟨R_MO, "isProgramRight", "([B)Z"⟩
abbrev b_MO_isProgramRight : ByteArray := prog_7_method_22_code
def y_MO_areRecipesRight : MethodName := ⟨R_MO, "areRecipesRight", "([B)Z"⟩
abbrev b_MO_areRecipesRight : ByteArray := prog_7_method_23_code
def y_MO_designOf : MethodName := ⟨R_MO, "designOf", "([B)I"⟩
abbrev b_MO_designOf : ByteArray := prog_7_method_24_code
def y_MO_fault : MethodName := ⟨R_MO, "fault", "()I"⟩
abbrev b_MO_fault : ByteArray := prog_7_method_25_code
def y_MO_load : MethodName := ⟨R_MO, "load", "(I)I"⟩
abbrev b_MO_load : ByteArray := prog_7_method_26_code
def y_MO_scaled : MethodName := ⟨R_MO, "scaled", "(II)I"⟩
abbrev b_MO_scaled : ByteArray := prog_7_method_27_code
def y_MO_about : MethodName := ⟨R_MO, "about", "(I)I"⟩
abbrev b_MO_about : ByteArray := prog_7_method_28_code
def y_MO_has : MethodName := ⟨R_MO, "has", "(I)Z"⟩
abbrev b_MO_has : ByteArray := prog_7_method_29_code
def y_MO_sizeOf : MethodName := ⟨R_MO, "sizeOf", "(II)I"⟩
abbrev b_MO_sizeOf : ByteArray := prog_7_method_30_code
def y_MO_of : MethodName := ⟨R_MO, "of", "(II)I"⟩
abbrev b_MO_of : ByteArray := prog_7_method_31_code
def y_MO_part : MethodName := ⟨R_MO, "part", "(II)I"⟩
abbrev b_MO_part : ByteArray := prog_7_method_32_code
def y_MO_parameter : MethodName := ⟨R_MO, "parameter", "(I)I"⟩
abbrev b_MO_parameter : ByteArray := prog_7_method_33_code
def y_MO_found : MethodName := ⟨R_MO, "found", "(II)I"⟩
abbrev b_MO_found : ByteArray := prog_7_method_34_code
def y_MO_mayAsk : MethodName := ⟨R_MO, "mayAsk", "(I)Z"⟩
abbrev b_MO_mayAsk : ByteArray := prog_7_method_35_code
def y_MO_ask : MethodName := ⟨R_MO, "ask", "(II)I"⟩
abbrev b_MO_ask : ByteArray := prog_7_method_36_code
def y_MO_add : MethodName := ⟨R_MO, "add", "(I)Z"⟩
abbrev b_MO_add : ByteArray := prog_7_method_37_code
def y_MO_insert : MethodName := ⟨R_MO, "insert", "(III)V"⟩
abbrev b_MO_insert : ByteArray := prog_7_method_38_code
def y_MO_remove : MethodName := ⟨R_MO, "remove", "(I)V"⟩
abbrev b_MO_remove : ByteArray := prog_7_method_39_code
def y_MO_step : MethodName := ⟨R_MO, "step", "(I)I"⟩
abbrev b_MO_step : ByteArray := prog_7_method_40_code
def y_MO_set : MethodName := ⟨R_MO, "set", "()I"⟩
abbrev b_MO_set : ByteArray := prog_7_method_41_code
def y_MO_isKern : MethodName := ⟨R_MO, "isKern", "(I)Z"⟩
abbrev b_MO_isKern : ByteArray := prog_7_method_42_code
def y_MO_item : MethodName := ⟨R_MO, "item", "(I)I"⟩
abbrev b_MO_item : ByteArray := prog_7_method_43_code
def y_MO_total : MethodName := ⟨R_MO, "total", "()J"⟩
abbrev b_MO_total : ByteArray := prog_7_method_44_code
def y_BF_init : MethodName := ⟨R_BF, "<init>", "()V"⟩
abbrev b_BF_init : ByteArray := prog_2_method_1_code
def y_BF_append : MethodName := ⟨R_BF, "append", "(JI)Z"⟩
abbrev b_BF_append : ByteArray := prog_2_method_2_code
def y_BF_cut : MethodName := ⟨R_BF, "cut", "(I)Z"⟩
abbrev b_BF_cut : ByteArray := prog_2_method_3_code
def y_BF_put : MethodName := ⟨R_BF, "put", "(I)V"⟩
abbrev b_BF_put : ByteArray := prog_2_method_4_code
def y_FA_firstOfNumbers : MethodName := ⟨R_FA, "firstOfNumbers", "(LFontMetrics$Font;I)I"⟩
abbrev b_FA_firstOfNumbers : ByteArray := prog_3_method_2_code
def y_FA_firstOfParts : MethodName := ⟨R_FA, "firstOfParts", "(LFontMetrics$Font;)I"⟩
abbrev b_FA_firstOfParts : ByteArray := prog_3_method_3_code
def y_FA_numbersAreSmall : MethodName := ⟨R_FA, "numbersAreSmall", "(LFontMetrics$Font;)Z"⟩
abbrev b_FA_numbersAreSmall : ByteArray := prog_3_method_4_code
def y_FA_partsAreEnough : MethodName := ⟨R_FA, "partsAreEnough", "(LFontMetrics$Font;)Z"⟩
abbrev b_FA_partsAreEnough : ByteArray := prog_3_method_5_code
def y_FA_lengthsAgree : MethodName := ⟨R_FA, "lengthsAgree", "(LFontMetrics$Font;I)Z"⟩
abbrev b_FA_lengthsAgree : ByteArray := prog_3_method_6_code
def y_FA_measuresHavePlaces : MethodName := ⟨R_FA, "measuresHavePlaces", "(LFontMetrics$Font;)Z"⟩
abbrev b_FA_measuresHavePlaces : ByteArray := prog_3_method_7_code
def y_FA_tagsHold : MethodName := ⟨R_FA, "tagsHold", "(LFontMetrics$Font;)Z"⟩
abbrev b_FA_tagsHold : ByteArray := prog_3_method_8_code
def y_FA_tagHolds : MethodName := ⟨R_FA, "tagHolds", "(LFontMetrics$Font;I)Z"⟩
abbrev b_FA_tagHolds : ByteArray := prog_3_method_9_code
def y_FA_leadsBack : MethodName := ⟨R_FA, "leadsBack", "(LFontMetrics$Font;I)Z"⟩
abbrev b_FA_leadsBack : ByteArray := prog_3_method_10_code
def y_FA_fractionsHold : MethodName := ⟨R_FA, "fractionsHold", "(LFontMetrics$Font;)Z"⟩
abbrev b_FA_fractionsHold : ByteArray := prog_3_method_11_code
def y_FA_areFractions : MethodName := ⟨R_FA, "areFractions", "(LFontMetrics$Font;II)Z"⟩
abbrev b_FA_areFractions : ByteArray := prog_3_method_12_code
def y_FA_programHolds : MethodName := ⟨R_FA, "programHolds", "(LFontMetrics$Font;)Z"⟩
abbrev b_FA_programHolds : ByteArray := prog_3_method_13_code
def y_FA_wayHolds : MethodName := ⟨R_FA, "wayHolds", "(LFontMetrics$Font;II)Z"⟩
abbrev b_FA_wayHolds : ByteArray := prog_3_method_14_code
def y_FA_sayingHolds : MethodName := ⟨R_FA, "sayingHolds", "(LFontMetrics$Font;I)Z"⟩
abbrev b_FA_sayingHolds : ByteArray := prog_3_method_15_code
def y_FA_recipesHold : MethodName := ⟨R_FA, "recipesHold", "(LFontMetrics$Font;)Z"⟩
abbrev b_FA_recipesHold : ByteArray := prog_3_method_16_code
def y_FO_init : MethodName := ⟨R_FO, "<init>", "()V"⟩
abbrev b_FO_init : ByteArray := prog_4_method_1_code
def y_FO_take : MethodName := ⟨R_FO, "take", "([I)V"⟩
abbrev b_FO_take : ByteArray := prog_4_method_2_code
def y_FO_lengthByNumbers : MethodName := ⟨R_FO, "lengthByNumbers", "(I)I"⟩
abbrev b_FO_lengthByNumbers : ByteArray := prog_4_method_3_code
def y_FO_resize : MethodName := ⟨R_FO, "resize", "(I)V"⟩
abbrev b_FO_resize : ByteArray := prog_4_method_4_code
def y_FO_number : MethodName := ⟨R_FO, "number", "(I)I"⟩
abbrev b_FO_number : ByteArray := prog_4_method_5_code
def y_FO_lengthOf : MethodName := ⟨R_FO, "lengthOf", "(I)I"⟩
abbrev b_FO_lengthOf : ByteArray := prog_4_method_6_code
def y_FO_word : MethodName := ⟨R_FO, "word", "(II)I"⟩
abbrev b_FO_word : ByteArray := prog_4_method_7_code
def y_FO_designSize : MethodName := ⟨R_FO, "designSize", "()I"⟩
abbrev b_FO_designSize : ByteArray := prog_4_method_8_code
def y_FO_scaled : MethodName := ⟨R_FO, "scaled", "(I)I"⟩
abbrev b_FO_scaled : ByteArray := prog_4_method_9_code
def y_FO_character : MethodName := ⟨R_FO, "character", "(I)I"⟩
abbrev b_FO_character : ByteArray := prog_4_method_10_code
def y_FO_isThere : MethodName := ⟨R_FO, "isThere", "(I)Z"⟩
abbrev b_FO_isThere : ByteArray := prog_4_method_11_code
def y_FO_width : MethodName := ⟨R_FO, "width", "(I)I"⟩
abbrev b_FO_width : ByteArray := prog_4_method_12_code
def y_FO_height : MethodName := ⟨R_FO, "height", "(I)I"⟩
abbrev b_FO_height : ByteArray := prog_4_method_13_code
def y_FO_depth : MethodName := ⟨R_FO, "depth", "(I)I"⟩
abbrev b_FO_depth : ByteArray := prog_4_method_14_code
def y_FO_italic : MethodName := ⟨R_FO, "italic", "(I)I"⟩
abbrev b_FO_italic : ByteArray := prog_4_method_15_code
def y_FO_edge : MethodName := ⟨R_FO, "edge", "()I"⟩
abbrev b_FO_edge : ByteArray := prog_4_method_16_code
def y_FO_edgeStart : MethodName := ⟨R_FO, "edgeStart", "()I"⟩
abbrev b_FO_edgeStart : ByteArray := prog_4_method_17_code
def y_FO_find : MethodName := ⟨R_FO, "find", "(II)I"⟩
abbrev b_FO_find : ByteArray := prog_4_method_18_code
def y_FO_programStart : MethodName := ⟨R_FO, "programStart", "(I)I"⟩
abbrev b_FO_programStart : ByteArray := prog_4_method_19_code
def y_FO_startOfCharacter : MethodName := ⟨R_FO, "startOfCharacter", "(I)I"⟩
abbrev b_FO_startOfCharacter : ByteArray := prog_4_method_20_code
def y_FO_kern : MethodName := ⟨R_FO, "kern", "(I)I"⟩
abbrev b_FO_kern : ByteArray := prog_4_method_21_code
def y_FO_byteOf : MethodName := ⟨R_FO, "byteOf", "(II)I"⟩
abbrev b_FO_byteOf : ByteArray := prog_4_method_22_code
def y_FO_target : MethodName := ⟨R_FO, "target", "(I)I"⟩
abbrev b_FO_target : ByteArray := prog_4_method_23_code
def y_FO_saying : MethodName := ⟨R_FO, "saying", "(I)I"⟩
abbrev b_FO_saying : ByteArray := prog_4_method_24_code
def y_FO_widthPlace : MethodName := ⟨R_FO, "widthPlace", "(I)I"⟩
abbrev b_FO_widthPlace : ByteArray := prog_4_method_25_code
def y_FO_heightPlace : MethodName := ⟨R_FO, "heightPlace", "(I)I"⟩
abbrev b_FO_heightPlace : ByteArray := prog_4_method_26_code
def y_FO_depthPlace : MethodName := ⟨R_FO, "depthPlace", "(I)I"⟩
abbrev b_FO_depthPlace : ByteArray := prog_4_method_27_code
def y_FO_italicPlace : MethodName := ⟨R_FO, "italicPlace", "(I)I"⟩
abbrev b_FO_italicPlace : ByteArray := prog_4_method_28_code
def y_FO_tag : MethodName := ⟨R_FO, "tag", "(I)I"⟩
abbrev b_FO_tag : ByteArray := prog_4_method_29_code
def y_FO_rest : MethodName := ⟨R_FO, "rest", "(I)I"⟩
abbrev b_FO_rest : ByteArray := prog_4_method_30_code
def y_LI_init : MethodName := ⟨R_LI, "<init>", "()V"⟩
abbrev b_LI_init : ByteArray := prog_5_method_1_code
def y_LI_clear : MethodName := ⟨R_LI, "clear", "()V"⟩
abbrev b_LI_clear : ByteArray := prog_5_method_2_code
def y_LI_lay : MethodName := ⟨R_LI, "lay", "(LFontMetrics$Font;[II)V"⟩
abbrev b_LI_lay : ByteArray := prog_5_method_3_code
def y_LI_run : MethodName := ⟨R_LI, "run", "(LFontMetrics$Font;)Z"⟩
abbrev b_LI_run : ByteArray := prog_5_method_4_code
def y_LI_step : MethodName := ⟨R_LI, "step", "(LFontMetrics$Font;)V"⟩
abbrev b_LI_step : ByteArray := prog_5_method_5_code
def y_LI_join : MethodName := ⟨R_LI, "join", "(III)V"⟩
abbrev b_LI_join : ByteArray := prog_5_method_6_code
def y_LI_pass : MethodName := ⟨R_LI, "pass", "(I)V"⟩
abbrev b_LI_pass : ByteArray := prog_5_method_7_code
def y_LI_push : MethodName := ⟨R_LI, "push", "(I)V"⟩
abbrev b_LI_push : ByteArray := prog_5_method_8_code
def y_LI_pendingAt : MethodName := ⟨R_LI, "pendingAt", "(I)I"⟩
abbrev b_LI_pendingAt : ByteArray := prog_5_method_9_code
def y_LI_append : MethodName := ⟨R_LI, "append", "(IZ)V"⟩
abbrev b_LI_append : ByteArray := prog_5_method_10_code
def y_LI_kernAt : MethodName := ⟨R_LI, "kernAt", "(I)Z"⟩
abbrev b_LI_kernAt : ByteArray := prog_5_method_11_code
def y_LI_valueAt : MethodName := ⟨R_LI, "valueAt", "(I)I"⟩
abbrev b_LI_valueAt : ByteArray := prog_5_method_12_code
def y_LI_width : MethodName := ⟨R_LI, "width", "(LFontMetrics$Font;)J"⟩
abbrev b_LI_width : ByteArray := prog_5_method_13_code
def y_LW_load : MethodName := ⟨R_LW, "load", "(LFontMetrics;I[J)I"⟩
abbrev b_LW_load : ByteArray := method_3_code
def y_LW_about : MethodName := ⟨R_LW, "about", "(LFontMetrics;I[J)I"⟩
abbrev b_LW_about : ByteArray := method_4_code
def y_LW_of : MethodName := ⟨R_LW, "of", "(LFontMetrics;II[J)I"⟩
abbrev b_LW_of : ByteArray := method_5_code
def y_LW_part : MethodName := ⟨R_LW, "part", "(LFontMetrics;II[J)I"⟩
abbrev b_LW_part : ByteArray := method_6_code
def y_LW_parameter : MethodName := ⟨R_LW, "parameter", "(LFontMetrics;I[J)I"⟩
abbrev b_LW_parameter : ByteArray := method_7_code
def y_LW_ask : MethodName := ⟨R_LW, "ask", "(LFontMetrics;II[J)I"⟩
abbrev b_LW_ask : ByteArray := method_8_code
def y_LW_set : MethodName := ⟨R_LW, "set", "(LFontMetrics;[J)I"⟩
abbrev b_LW_set : ByteArray := method_9_code
def y_LW_isKern : MethodName := ⟨R_LW, "isKern", "(LFontMetrics;I[J)I"⟩
abbrev b_LW_isKern : ByteArray := method_10_code
def y_LW_item : MethodName := ⟨R_LW, "item", "(LFontMetrics;I[J)I"⟩
abbrev b_LW_item : ByteArray := method_11_code
