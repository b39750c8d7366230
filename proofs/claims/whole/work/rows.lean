section
-- ===== PART A: goes FIRST, ahead of the names: the tables' words, and 'selects' of the private methods out of them =====
/-- a private method of a class that the tables say can be made, by its rows of tables_1 -/
def lw_okq (q : MethodName × Nat) : Prop := (q.1.cls ≠ "java/lang/invoke/MethodHandle" ∧ q.1.cls ≠ "java/lang/invoke/VarHandle") ∧ Cond.instantiable q.1.cls q.2 ∈ tables_1 ∧ Cond.privateMethod q.1 ∈ tables_1 ∧ Cond.instanceMethod q.1 ∈ tables_1
theorem lw_p0 : lw_okq (⟨"FontMetrics$ByteFile", "put", "(I)V"⟩, 2) := ⟨⟨by decide +kernel, by decide +kernel⟩, List.mem_of_getElem? (i := 24) (by decide +kernel), List.mem_of_getElem? (i := 130) (by decide +kernel), List.mem_of_getElem? (i := 131) (by decide +kernel)⟩
theorem lw_p1 : lw_okq (⟨"java/lang/Throwable", "fillInStackTrace", "(I)Ljava/lang/Throwable;"⟩, 6) := ⟨⟨by decide +kernel, by decide +kernel⟩, List.mem_of_getElem? (i := 240) (by decide +kernel), List.mem_of_getElem? (i := 238) (by decide +kernel), List.mem_of_getElem? (i := 239) (by decide +kernel)⟩
theorem lw_p2 : lw_okq (⟨"FontMetrics$Font", "lengthByNumbers", "(I)I"⟩, 8) := ⟨⟨by decide +kernel, by decide +kernel⟩, List.mem_of_getElem? (i := 64) (by decide +kernel), List.mem_of_getElem? (i := 285) (by decide +kernel), List.mem_of_getElem? (i := 286) (by decide +kernel)⟩
theorem lw_p3 : lw_okq (⟨"FontMetrics", "requireFont", "()V"⟩, 7) := ⟨⟨by decide +kernel, by decide +kernel⟩, List.mem_of_getElem? (i := 16) (by decide +kernel), List.mem_of_getElem? (i := 393) (by decide +kernel), List.mem_of_getElem? (i := 394) (by decide +kernel)⟩
theorem lw_p4 : lw_okq (⟨"FontMetrics", "requireThere", "(I)V"⟩, 7) := ⟨⟨by decide +kernel, by decide +kernel⟩, List.mem_of_getElem? (i := 16) (by decide +kernel), List.mem_of_getElem? (i := 444) (by decide +kernel), List.mem_of_getElem? (i := 445) (by decide +kernel)⟩
theorem lw_p5 : lw_okq (⟨"FontMetrics", "requireThereOrEdge", "(I)V"⟩, 7) := ⟨⟨by decide +kernel, by decide +kernel⟩, List.mem_of_getElem? (i := 16) (by decide +kernel), List.mem_of_getElem? (i := 494) (by decide +kernel), List.mem_of_getElem? (i := 495) (by decide +kernel)⟩
theorem lw_p6 : lw_okq (⟨"FontMetrics$Font", "programStart", "(I)I"⟩, 8) := ⟨⟨by decide +kernel, by decide +kernel⟩, List.mem_of_getElem? (i := 64) (by decide +kernel), List.mem_of_getElem? (i := 502) (by decide +kernel), List.mem_of_getElem? (i := 503) (by decide +kernel)⟩
theorem lw_p7 : lw_okq (⟨"FontMetrics", "rowIsThere", "()Z"⟩, 7) := ⟨⟨by decide +kernel, by decide +kernel⟩, List.mem_of_getElem? (i := 16) (by decide +kernel), List.mem_of_getElem? (i := 521) (by decide +kernel), List.mem_of_getElem? (i := 522) (by decide +kernel)⟩
theorem lw_p8 : lw_okq (⟨"FontMetrics$Line", "push", "(I)V"⟩, 5) := ⟨⟨by decide +kernel, by decide +kernel⟩, List.mem_of_getElem? (i := 40) (by decide +kernel), List.mem_of_getElem? (i := 530) (by decide +kernel), List.mem_of_getElem? (i := 531) (by decide +kernel)⟩
theorem lw_p9 : lw_okq (⟨"FontMetrics$Line", "step", "(LFontMetrics$Font;)V"⟩, 5) := ⟨⟨by decide +kernel, by decide +kernel⟩, List.mem_of_getElem? (i := 40) (by decide +kernel), List.mem_of_getElem? (i := 540) (by decide +kernel), List.mem_of_getElem? (i := 541) (by decide +kernel)⟩
theorem lw_p10 : lw_okq (⟨"FontMetrics$Line", "pendingAt", "(I)I"⟩, 5) := ⟨⟨by decide +kernel, by decide +kernel⟩, List.mem_of_getElem? (i := 40) (by decide +kernel), List.mem_of_getElem? (i := 544) (by decide +kernel), List.mem_of_getElem? (i := 545) (by decide +kernel)⟩
theorem lw_p11 : lw_okq (⟨"FontMetrics$Line", "pass", "(I)V"⟩, 5) := ⟨⟨by decide +kernel, by decide +kernel⟩, List.mem_of_getElem? (i := 40) (by decide +kernel), List.mem_of_getElem? (i := 549) (by decide +kernel), List.mem_of_getElem? (i := 550) (by decide +kernel)⟩
theorem lw_p12 : lw_okq (⟨"FontMetrics$Line", "append", "(IZ)V"⟩, 5) := ⟨⟨by decide +kernel, by decide +kernel⟩, List.mem_of_getElem? (i := 40) (by decide +kernel), List.mem_of_getElem? (i := 553) (by decide +kernel), List.mem_of_getElem? (i := 554) (by decide +kernel)⟩
theorem lw_p13 : lw_okq (⟨"FontMetrics$Line", "join", "(III)V"⟩, 5) := ⟨⟨by decide +kernel, by decide +kernel⟩, List.mem_of_getElem? (i := 40) (by decide +kernel), List.mem_of_getElem? (i := 562) (by decide +kernel), List.mem_of_getElem? (i := 563) (by decide +kernel)⟩
theorem lw_p14 : lw_okq (⟨"FontMetrics", "requireItem", "(I)V"⟩, 7) := ⟨⟨by decide +kernel, by decide +kernel⟩, List.mem_of_getElem? (i := 16) (by decide +kernel), List.mem_of_getElem? (i := 574) (by decide +kernel), List.mem_of_getElem? (i := 575) (by decide +kernel)⟩
theorem lw_p15 : lw_okq (⟨"FontMetricsModel", "fault", "()I"⟩, 11) := ⟨⟨by decide +kernel, by decide +kernel⟩, List.mem_of_getElem? (i := 588) (by decide +kernel), List.mem_of_getElem? (i := 645) (by decide +kernel), List.mem_of_getElem? (i := 646) (by decide +kernel)⟩
def lw_privs_1 : List (MethodName × Nat) := [(⟨"FontMetrics$ByteFile", "put", "(I)V"⟩, 2), (⟨"java/lang/Throwable", "fillInStackTrace", "(I)Ljava/lang/Throwable;"⟩, 6), (⟨"FontMetrics$Font", "lengthByNumbers", "(I)I"⟩, 8), (⟨"FontMetrics", "requireFont", "()V"⟩, 7), (⟨"FontMetrics", "requireThere", "(I)V"⟩, 7), (⟨"FontMetrics", "requireThereOrEdge", "(I)V"⟩, 7), (⟨"FontMetrics$Font", "programStart", "(I)I"⟩, 8), (⟨"FontMetrics", "rowIsThere", "()Z"⟩, 7), (⟨"FontMetrics$Line", "push", "(I)V"⟩, 5), (⟨"FontMetrics$Line", "step", "(LFontMetrics$Font;)V"⟩, 5), (⟨"FontMetrics$Line", "pendingAt", "(I)I"⟩, 5), (⟨"FontMetrics$Line", "pass", "(I)V"⟩, 5), (⟨"FontMetrics$Line", "append", "(IZ)V"⟩, 5), (⟨"FontMetrics$Line", "join", "(III)V"⟩, 5), (⟨"FontMetrics", "requireItem", "(I)V"⟩, 7), (⟨"FontMetricsModel", "fault", "()I"⟩, 11)]
theorem lw_r1 : ∀ q ∈ lw_privs_1, lw_okq q := List.forall_mem_cons.mpr ⟨lw_p0, List.forall_mem_cons.mpr ⟨lw_p1, List.forall_mem_cons.mpr ⟨lw_p2, List.forall_mem_cons.mpr ⟨lw_p3, List.forall_mem_cons.mpr ⟨lw_p4, List.forall_mem_cons.mpr ⟨lw_p5, List.forall_mem_cons.mpr ⟨lw_p6, List.forall_mem_cons.mpr ⟨lw_p7, List.forall_mem_cons.mpr ⟨lw_p8, List.forall_mem_cons.mpr ⟨lw_p9, List.forall_mem_cons.mpr ⟨lw_p10, List.forall_mem_cons.mpr ⟨lw_p11, List.forall_mem_cons.mpr ⟨lw_p12, List.forall_mem_cons.mpr ⟨lw_p13, List.forall_mem_cons.mpr ⟨lw_p14, List.forall_mem_cons.mpr ⟨lw_p15, fun _ h => absurd h List.not_mem_nil⟩⟩⟩⟩⟩⟩⟩⟩⟩⟩⟩⟩⟩⟩⟩⟩
theorem lw_p16 : lw_okq (⟨"FontMetricsModel", "areNumbersSmall", "()Z"⟩, 11) := ⟨⟨by decide +kernel, by decide +kernel⟩, List.mem_of_getElem? (i := 588) (by decide +kernel), List.mem_of_getElem? (i := 649) (by decide +kernel), List.mem_of_getElem? (i := 650) (by decide +kernel)⟩
theorem lw_p17 : lw_okq (⟨"FontMetricsModel", "sizeOf", "(II)I"⟩, 11) := ⟨⟨by decide +kernel, by decide +kernel⟩, List.mem_of_getElem? (i := 588) (by decide +kernel), List.mem_of_getElem? (i := 723) (by decide +kernel), List.mem_of_getElem? (i := 724) (by decide +kernel)⟩
theorem lw_p18 : lw_okq (⟨"FontMetricsModel", "scaled", "(II)I"⟩, 11) := ⟨⟨by decide +kernel, by decide +kernel⟩, List.mem_of_getElem? (i := 588) (by decide +kernel), List.mem_of_getElem? (i := 727) (by decide +kernel), List.mem_of_getElem? (i := 728) (by decide +kernel)⟩
theorem lw_p19 : lw_okq (⟨"FontMetricsModel", "mayAsk", "(I)Z"⟩, 11) := ⟨⟨by decide +kernel, by decide +kernel⟩, List.mem_of_getElem? (i := 588) (by decide +kernel), List.mem_of_getElem? (i := 747) (by decide +kernel), List.mem_of_getElem? (i := 748) (by decide +kernel)⟩
theorem lw_p20 : lw_okq (⟨"FontMetricsModel", "found", "(II)I"⟩, 11) := ⟨⟨by decide +kernel, by decide +kernel⟩, List.mem_of_getElem? (i := 588) (by decide +kernel), List.mem_of_getElem? (i := 751) (by decide +kernel), List.mem_of_getElem? (i := 752) (by decide +kernel)⟩
theorem lw_p21 : lw_okq (⟨"FontMetricsModel", "insert", "(III)V"⟩, 11) := ⟨⟨by decide +kernel, by decide +kernel⟩, List.mem_of_getElem? (i := 588) (by decide +kernel), List.mem_of_getElem? (i := 763) (by decide +kernel), List.mem_of_getElem? (i := 764) (by decide +kernel)⟩
theorem lw_p22 : lw_okq (⟨"FontMetricsModel", "step", "(I)I"⟩, 11) := ⟨⟨by decide +kernel, by decide +kernel⟩, List.mem_of_getElem? (i := 588) (by decide +kernel), List.mem_of_getElem? (i := 767) (by decide +kernel), List.mem_of_getElem? (i := 768) (by decide +kernel)⟩
theorem lw_p23 : lw_okq (⟨"FontMetricsModel", "remove", "(I)V"⟩, 11) := ⟨⟨by decide +kernel, by decide +kernel⟩, List.mem_of_getElem? (i := 588) (by decide +kernel), List.mem_of_getElem? (i := 771) (by decide +kernel), List.mem_of_getElem? (i := 772) (by decide +kernel)⟩
def lw_privs_2 : List (MethodName × Nat) := [(⟨"FontMetricsModel", "areNumbersSmall", "()Z"⟩, 11), (⟨"FontMetricsModel", "sizeOf", "(II)I"⟩, 11), (⟨"FontMetricsModel", "scaled", "(II)I"⟩, 11), (⟨"FontMetricsModel", "mayAsk", "(I)Z"⟩, 11), (⟨"FontMetricsModel", "found", "(II)I"⟩, 11), (⟨"FontMetricsModel", "insert", "(III)V"⟩, 11), (⟨"FontMetricsModel", "step", "(I)I"⟩, 11), (⟨"FontMetricsModel", "remove", "(I)V"⟩, 11)]
theorem lw_r2 : ∀ q ∈ lw_privs_2, lw_okq q := List.forall_mem_cons.mpr ⟨lw_p16, List.forall_mem_cons.mpr ⟨lw_p17, List.forall_mem_cons.mpr ⟨lw_p18, List.forall_mem_cons.mpr ⟨lw_p19, List.forall_mem_cons.mpr ⟨lw_p20, List.forall_mem_cons.mpr ⟨lw_p21, List.forall_mem_cons.mpr ⟨lw_p22, List.forall_mem_cons.mpr ⟨lw_p23, fun _ h => absurd h List.not_mem_nil⟩⟩⟩⟩⟩⟩⟩⟩
def lw_privs : List (MethodName × Nat) := lw_privs_1 ++ (lw_privs_2)
def lw_tbl : List Cond := k2_sels lw_privs ++ tables_1
theorem lw_privs_ok : ∀ q ∈ lw_privs, lw_okq q := by
  show ∀ q ∈ lw_privs_1 ++ (lw_privs_2), lw_okq q
  exact List.forall_mem_append.mpr ⟨lw_r1, lw_r2⟩
def R_BF : String := "FontMetrics$ByteFile"
def R_FA : String := "FontMetrics$Faults"
def R_FO : String := "FontMetrics$Font"
def R_LI : String := "FontMetrics$Line"
def R_FM : String := "FontMetrics"
def R_MO : String := "FontMetricsModel"
def R_LW : String := "FontMetricsLaw"
def F_BF : u_T := fun k => match k with
  | 0 => ("FontMetrics$ByteFile", "words", "[I", true)
  | _ => ("FontMetrics$ByteFile", "length", "I", false)
def t_BF : Nat → FieldType := fun k => match k with
  | 0 => .array .int
  | _ => .int
theorem n_BF : ∀ a, a < 2 → ∀ b, b < 2 → a ≠ b → (F_BF a).2.1 ≠ (F_BF b).2.1 := by decide +kernel
theorem t_BF_ok : ∀ k, k < 2 → parseFieldDescriptor (F_BF k).2.2.1 = some (t_BF k) := by decide +kernel
def F_FO : u_T := fun k => match k with
  | 0 => ("FontMetrics$Font", "words", "[I", true)
  | 1 => ("FontMetrics$Font", "starts", "[I", true)
  | 2 => ("FontMetrics$Font", "lengths", "[I", true)
  | 3 => ("FontMetrics$Font", "bc", "I", false)
  | 4 => ("FontMetrics$Font", "ec", "I", false)
  | 5 => ("FontMetrics$Font", "size", "I", false)
  | 6 => ("FontMetrics$Font", "scale", "I", false)
  | _ => ("FontMetrics$Font", "halvings", "I", false)
def t_FO : Nat → FieldType := fun k => match k with
  | 0 => .array .int
  | 1 => .array .int
  | 2 => .array .int
  | 3 => .int
  | 4 => .int
  | 5 => .int
  | 6 => .int
  | _ => .int
theorem n_FO : ∀ a, a < 8 → ∀ b, b < 8 → a ≠ b → (F_FO a).2.1 ≠ (F_FO b).2.1 := by decide +kernel
theorem t_FO_ok : ∀ k, k < 8 → parseFieldDescriptor (F_FO k).2.2.1 = some (t_FO k) := by decide +kernel
def F_LI : u_T := fun k => match k with
  | 0 => ("FontMetrics$Line", "pending", "[I", true)
  | 1 => ("FontMetrics$Line", "values", "[I", true)
  | 2 => ("FontMetrics$Line", "kerns", "[Z", true)
  | 3 => ("FontMetrics$Line", "left", "I", false)
  | _ => ("FontMetrics$Line", "count", "I", false)
def t_LI : Nat → FieldType := fun k => match k with
  | 0 => .array .int
  | 1 => .array .int
  | 2 => .array .boolean
  | 3 => .int
  | _ => .int
theorem n_LI : ∀ a, a < 5 → ∀ b, b < 5 → a ≠ b → (F_LI a).2.1 ≠ (F_LI b).2.1 := by decide +kernel
theorem t_LI_ok : ∀ k, k < 5 → parseFieldDescriptor (F_LI k).2.2.1 = some (t_LI k) := by decide +kernel
def F_FM : u_T := fun k => match k with
  | 0 => ("FontMetrics", "file", "LFontMetrics$ByteFile;", true)
  | 1 => ("FontMetrics", "line", "LFontMetrics$Line;", true)
  | 2 => ("FontMetrics", "row", "[I", true)
  | 3 => ("FontMetrics", "rowLength", "I", false)
  | 4 => ("FontMetrics", "font", "LFontMetrics$Font;", false)
  | 5 => ("FontMetrics", "spare", "LFontMetrics$Font;", false)
  | _ => ("FontMetrics", "loaded", "Z", false)
def t_FM : Nat → FieldType := fun k => match k with
  | 0 => .object "FontMetrics$ByteFile"
  | 1 => .object "FontMetrics$Line"
  | 2 => .array .int
  | 3 => .int
  | 4 => .object "FontMetrics$Font"
  | 5 => .object "FontMetrics$Font"
  | _ => .boolean
theorem n_FM : ∀ a, a < 7 → ∀ b, b < 7 → a ≠ b → (F_FM a).2.1 ≠ (F_FM b).2.1 := by decide +kernel
theorem t_FM_ok : ∀ k, k < 7 → parseFieldDescriptor (F_FM k).2.2.1 = some (t_FM k) := by decide +kernel
def F_MO : u_T := fun k => match k with
  | 0 => ("FontMetricsModel", "thrown", "I", false)
  | 1 => ("FontMetricsModel", "file", "[B", true)
  | 2 => ("FontMetricsModel", "fileSize", "I", false)
  | 3 => ("FontMetricsModel", "font", "[B", true)
  | 4 => ("FontMetricsModel", "loaded", "Z", false)
  | 5 => ("FontMetricsModel", "size", "I", false)
  | 6 => ("FontMetricsModel", "row", "[B", true)
  | 7 => ("FontMetricsModel", "rowSize", "I", false)
  | 8 => ("FontMetricsModel", "kinds", "[I", true)
  | 9 => ("FontMetricsModel", "wide", "[I", true)
  | _ => ("FontMetricsModel", "count", "I", false)
def t_MO : Nat → FieldType := fun k => match k with
  | 0 => .int
  | 1 => .array .byte
  | 2 => .int
  | 3 => .array .byte
  | 4 => .boolean
  | 5 => .int
  | 6 => .array .byte
  | 7 => .int
  | 8 => .array .int
  | 9 => .array .int
  | _ => .int
theorem n_MO : ∀ a, a < 11 → ∀ b, b < 11 → a ≠ b → (F_MO a).2.1 ≠ (F_MO b).2.1 := by decide +kernel
theorem t_MO_ok : ∀ k, k < 11 → parseFieldDescriptor (F_MO k).2.2.1 = some (t_MO k) := by decide +kernel
abbrev classes : List vw_C := [(R_BF, F_BF, 2), (R_FO, F_FO, 8), (R_LI, F_LI, 5), (R_FM, F_FM, 7), (R_MO, F_MO, 11)]
def y_FM_init : MethodName := ⟨R_FM, "<init>", "()V"⟩
abbrev b_FM_init : ByteArray := prog_1_method_1_code
def y_FM_feed : MethodName := ⟨R_FM, "feed", "(JI)Z"⟩
abbrev b_FM_feed : ByteArray := prog_1_method_2_code
def y_FM_keep : MethodName := ⟨R_FM, "keep", "(I)Z"⟩
abbrev b_FM_keep : ByteArray := prog_1_method_3_code
def y_FM_load : MethodName := ⟨R_FM, "load", "(I)I"⟩
abbrev b_FM_load : ByteArray := prog_1_method_4_code
def y_FM_about : MethodName := ⟨R_FM, "about", "(I)I"⟩
abbrev b_FM_about : ByteArray := prog_1_method_5_code
def y_FM_has : MethodName := ⟨R_FM, "has", "(I)Z"⟩
abbrev b_FM_has : ByteArray := prog_1_method_6_code
def y_FM_of : MethodName := ⟨R_FM, "of", "(II)I"⟩
abbrev b_FM_of : ByteArray := prog_1_method_7_code
def y_FM_part : MethodName := ⟨R_FM, "part", "(II)I"⟩
abbrev b_FM_part : ByteArray := prog_1_method_8_code
def y_FM_parameter : MethodName := ⟨R_FM, "parameter", "(I)I"⟩
abbrev b_FM_parameter : ByteArray := prog_1_method_9_code
def y_FM_ask : MethodName := ⟨R_FM, "ask", "(II)I"⟩
abbrev b_FM_ask : ByteArray := prog_1_method_10_code
def y_FM_add : MethodName := ⟨R_FM, "add", "(I)Z"⟩
abbrev b_FM_add : ByteArray := prog_1_method_11_code
def y_FM_set : MethodName := ⟨R_FM, "set", "()I"⟩
abbrev b_FM_set : ByteArray := prog_1_method_12_code
def y_FM_isKern : MethodName := ⟨R_FM, "isKern", "(I)Z"⟩
abbrev b_FM_isKern : ByteArray := prog_1_method_13_code
def y_FM_item : MethodName := ⟨R_FM, "item", "(I)I"⟩
abbrev b_FM_item : ByteArray := prog_1_method_14_code
def y_FM_total : MethodName := ⟨R_FM, "total", "()J"⟩
abbrev b_FM_total : ByteArray := prog_1_method_15_code
def y_FM_rowIsThere : MethodName := ⟨R_FM, "rowIsThere", "()Z"⟩
abbrev b_FM_rowIsThere : ByteArray := prog_1_method_16_code
def y_FM_requireFont : MethodName := ⟨R_FM, "requireFont", "()V"⟩
abbrev b_FM_requireFont : ByteArray := prog_1_method_17_code
def y_FM_requireThere : MethodName := ⟨R_FM, "requireThere", "(I)V"⟩
abbrev b_FM_requireThere : ByteArray := prog_1_method_18_code
def y_FM_requireThereOrEdge : MethodName := ⟨R_FM, "requireThereOrEdge", "(I)V"⟩
abbrev b_FM_requireThereOrEdge : ByteArray := prog_1_method_19_code
def y_FM_requireItem : MethodName := ⟨R_FM, "requireItem", "(I)V"⟩
abbrev b_FM_requireItem : ByteArray := prog_1_method_20_code
def y_MO_init : MethodName := ⟨R_MO, "<init>", "()V"⟩
abbrev b_MO_init : ByteArray := prog_7_method_1_code
def y_MO_thrown : MethodName := ⟨R_MO, "thrown", "()I"⟩
abbrev b_MO_thrown : ByteArray := prog_7_method_2_code
def y_MO_feed : MethodName := ⟨R_MO, "feed", "(JI)Z"⟩
abbrev b_MO_feed : ByteArray := prog_7_method_3_code
def y_MO_keep : MethodName := ⟨R_MO, "keep", "(I)Z"⟩
abbrev b_MO_keep : ByteArray := prog_7_method_4_code
def y_MO_half : MethodName := ⟨R_MO, "half", "([BI)I"⟩
abbrev b_MO_half : ByteArray := prog_7_method_5_code
def y_MO_words : MethodName := ⟨R_MO, "words", "([BI)I"⟩
abbrev b_MO_words : ByteArray := prog_7_method_6_code
def y_MO_start : MethodName := ⟨R_MO, "start", "([BI)I"⟩
abbrev b_MO_start : ByteArray := prog_7_method_7_code
def y_MO_at : MethodName := ⟨R_MO, "at", "([BIII)I"⟩
abbrev b_MO_at : ByteArray := prog_7_method_8_code
def y_MO_far : MethodName := ⟨R_MO, "far", "([BI)I"⟩
abbrev b_MO_far : ByteArray := prog_7_method_9_code
def y_MO_isThere : MethodName := ⟨R_MO, "isThere", "([BI)Z"⟩
abbrev b_MO_isThere : ByteArray := prog_7_method_10_code
def y_MO_tag : MethodName := ⟨R_MO, "tag", "([BI)I"⟩
abbrev b_MO_tag : ByteArray := prog_7_method_11_code
def y_MO_rest : MethodName := ⟨R_MO, "rest", "([BI)I"⟩
abbrev b_MO_rest : ByteArray := prog_7_method_12_code
def y_MO_edgeOf : MethodName := ⟨R_MO, "edgeOf", "([B)I"⟩
abbrev b_MO_edgeOf : ByteArray := prog_7_method_13_code
def y_MO_edgeProgram : MethodName := ⟨R_MO, "edgeProgram", "([B)I"⟩
abbrev b_MO_edgeProgram : ByteArray := prog_7_method_14_code
def y_MO_areNumbersSmall : MethodName := ⟨R_MO, "areNumbersSmall", "()Z"⟩
abbrev b_MO_areNumbersSmall : ByteArray := prog_7_method_15_code
def y_MO_areSizesRight : MethodName := ⟨R_MO, "areSizesRight", "([B)Z"⟩
abbrev b_MO_areSizesRight : ByteArray := prog_7_method_16_code
def y_MO_isLargerRight : MethodName := ⟨R_MO, "isLargerRight", "([BI)Z"⟩
abbrev b_MO_isLargerRight : ByteArray := prog_7_method_17_code
def y_MO_areTagsRight : MethodName := ⟨R_MO, "areTagsRight", "([B)Z"⟩
abbrev b_MO_areTagsRight : ByteArray := prog_7_method_18_code
def y_MO_areFractions : MethodName := ⟨R_MO, "areFractions", "([BII)Z"⟩
abbrev b_MO_areFractions : ByteArray := prog_7_method_19_code
def y_MO_areTablesRight : MethodName := ⟨R_MO, "areTablesRight", "([B)Z"⟩
abbrev b_MO_areTablesRight : ByteArray := prog_7_method_20_code
def y_MO_isWordRight : MethodName := ⟨R_MO, "isWordRight", "([BI)Z"⟩
abbrev b_MO_isWordRight : ByteArray := prog_7_method_21_code
def y_MO_isProgramRight : MethodName := ⟨R_MO, "isProgramRight", "([B)Z"⟩
abbrev b_MO_isProgramRight : ByteArray := prog_7_method_22_code
def y_MO_areRecipesRight : MethodName := ⟨R_MO, "areRecipesRight", "([B)Z"⟩
abbrev b_MO_areRecipesRight : ByteArray := prog_7_method_23_code
def y_MO_designOf : MethodName := ⟨R_MO, "designOf", "([B)I"⟩
abbrev b_MO_designOf : ByteArray := prog_7_method_24_code
def y_MO_fault : MethodName := ⟨R_MO, "fault", "()I"⟩
abbrev b_MO_fault : ByteArray := prog_7_method_25_code
def y_MO_load : MethodName := ⟨R_MO, "load", "(I)I"⟩
abbrev b_MO_load : ByteArray := prog_7_method_26_code
def y_MO_scaled : MethodName := ⟨R_MO, "scaled", "(II)I"⟩
abbrev b_MO_scaled : ByteArray := prog_7_method_27_code
def y_MO_about : MethodName := ⟨R_MO, "about", "(I)I"⟩
abbrev b_MO_about : ByteArray := prog_7_method_28_code
def y_MO_has : MethodName := ⟨R_MO, "has", "(I)Z"⟩
abbrev b_MO_has : ByteArray := prog_7_method_29_code
def y_MO_sizeOf : MethodName := ⟨R_MO, "sizeOf", "(II)I"⟩
abbrev b_MO_sizeOf : ByteArray := prog_7_method_30_code
def y_MO_of : MethodName := ⟨R_MO, "of", "(II)I"⟩
abbrev b_MO_of : ByteArray := prog_7_method_31_code
def y_MO_part : MethodName := ⟨R_MO, "part", "(II)I"⟩
abbrev b_MO_part : ByteArray := prog_7_method_32_code
def y_MO_parameter : MethodName := ⟨R_MO, "parameter", "(I)I"⟩
abbrev b_MO_parameter : ByteArray := prog_7_method_33_code
def y_MO_found : MethodName := ⟨R_MO, "found", "(II)I"⟩
abbrev b_MO_found : ByteArray := prog_7_method_34_code
def y_MO_mayAsk : MethodName := ⟨R_MO, "mayAsk", "(I)Z"⟩
abbrev b_MO_mayAsk : ByteArray := prog_7_method_35_code
def y_MO_ask : MethodName := ⟨R_MO, "ask", "(II)I"⟩
abbrev b_MO_ask : ByteArray := prog_7_method_36_code
def y_MO_add : MethodName := ⟨R_MO, "add", "(I)Z"⟩
abbrev b_MO_add : ByteArray := prog_7_method_37_code
def y_MO_insert : MethodName := ⟨R_MO, "insert", "(III)V"⟩
abbrev b_MO_insert : ByteArray := prog_7_method_38_code
def y_MO_remove : MethodName := ⟨R_MO, "remove", "(I)V"⟩
abbrev b_MO_remove : ByteArray := prog_7_method_39_code
def y_MO_step : MethodName := ⟨R_MO, "step", "(I)I"⟩
abbrev b_MO_step : ByteArray := prog_7_method_40_code
def y_MO_set : MethodName := ⟨R_MO, "set", "()I"⟩
abbrev b_MO_set : ByteArray := prog_7_method_41_code
def y_MO_isKern : MethodName := ⟨R_MO, "isKern", "(I)Z"⟩
abbrev b_MO_isKern : ByteArray := prog_7_method_42_code
def y_MO_item : MethodName := ⟨R_MO, "item", "(I)I"⟩
abbrev b_MO_item : ByteArray := prog_7_method_43_code
def y_MO_total : MethodName := ⟨R_MO, "total", "()J"⟩
abbrev b_MO_total : ByteArray := prog_7_method_44_code
def y_BF_init : MethodName := ⟨R_BF, "<init>", "()V"⟩
abbrev b_BF_init : ByteArray := prog_2_method_1_code
def y_BF_append : MethodName := ⟨R_BF, "append", "(JI)Z"⟩
abbrev b_BF_append : ByteArray := prog_2_method_2_code
def y_BF_cut : MethodName := ⟨R_BF, "cut", "(I)Z"⟩
abbrev b_BF_cut : ByteArray := prog_2_method_3_code
def y_BF_put : MethodName := ⟨R_BF, "put", "(I)V"⟩
abbrev b_BF_put : ByteArray := prog_2_method_4_code
def y_FA_firstOfNumbers : MethodName := ⟨R_FA, "firstOfNumbers", "(LFontMetrics$Font;I)I"⟩
abbrev b_FA_firstOfNumbers : ByteArray := prog_3_method_2_code
def y_FA_firstOfParts : MethodName := ⟨R_FA, "firstOfParts", "(LFontMetrics$Font;)I"⟩
abbrev b_FA_firstOfParts : ByteArray := prog_3_method_3_code
def y_FA_numbersAreSmall : MethodName := ⟨R_FA, "numbersAreSmall", "(LFontMetrics$Font;)Z"⟩
abbrev b_FA_numbersAreSmall : ByteArray := prog_3_method_4_code
def y_FA_partsAreEnough : MethodName := ⟨R_FA, "partsAreEnough", "(LFontMetrics$Font;)Z"⟩
abbrev b_FA_partsAreEnough : ByteArray := prog_3_method_5_code
def y_FA_lengthsAgree : MethodName := ⟨R_FA, "lengthsAgree", "(LFontMetrics$Font;I)Z"⟩
abbrev b_FA_lengthsAgree : ByteArray := prog_3_method_6_code
def y_FA_measuresHavePlaces : MethodName := ⟨R_FA, "measuresHavePlaces", "(LFontMetrics$Font;)Z"⟩
abbrev b_FA_measuresHavePlaces : ByteArray := prog_3_method_7_code
def y_FA_tagsHold : MethodName := ⟨R_FA, "tagsHold", "(LFontMetrics$Font;)Z"⟩
abbrev b_FA_tagsHold : ByteArray := prog_3_method_8_code
def y_FA_tagHolds : MethodName := ⟨R_FA, "tagHolds", "(LFontMetrics$Font;I)Z"⟩
abbrev b_FA_tagHolds : ByteArray := prog_3_method_9_code
def y_FA_leadsBack : MethodName := ⟨R_FA, "leadsBack", "(LFontMetrics$Font;I)Z"⟩
abbrev b_FA_leadsBack : ByteArray := prog_3_method_10_code
def y_FA_fractionsHold : MethodName := ⟨R_FA, "fractionsHold", "(LFontMetrics$Font;)Z"⟩
abbrev b_FA_fractionsHold : ByteArray := prog_3_method_11_code
def y_FA_areFractions : MethodName := ⟨R_FA, "areFractions", "(LFontMetrics$Font;II)Z"⟩
abbrev b_FA_areFractions : ByteArray := prog_3_method_12_code
def y_FA_programHolds : MethodName := ⟨R_FA, "programHolds", "(LFontMetrics$Font;)Z"⟩
abbrev b_FA_programHolds : ByteArray := prog_3_method_13_code
def y_FA_wayHolds : MethodName := ⟨R_FA, "wayHolds", "(LFontMetrics$Font;II)Z"⟩
abbrev b_FA_wayHolds : ByteArray := prog_3_method_14_code
def y_FA_sayingHolds : MethodName := ⟨R_FA, "sayingHolds", "(LFontMetrics$Font;I)Z"⟩
abbrev b_FA_sayingHolds : ByteArray := prog_3_method_15_code
def y_FA_recipesHold : MethodName := ⟨R_FA, "recipesHold", "(LFontMetrics$Font;)Z"⟩
abbrev b_FA_recipesHold : ByteArray := prog_3_method_16_code
def y_FO_init : MethodName := ⟨R_FO, "<init>", "()V"⟩
abbrev b_FO_init : ByteArray := prog_4_method_1_code
def y_FO_take : MethodName := ⟨R_FO, "take", "([I)V"⟩
abbrev b_FO_take : ByteArray := prog_4_method_2_code
def y_FO_lengthByNumbers : MethodName := ⟨R_FO, "lengthByNumbers", "(I)I"⟩
abbrev b_FO_lengthByNumbers : ByteArray := prog_4_method_3_code
def y_FO_resize : MethodName := ⟨R_FO, "resize", "(I)V"⟩
abbrev b_FO_resize : ByteArray := prog_4_method_4_code
def y_FO_number : MethodName := ⟨R_FO, "number", "(I)I"⟩
abbrev b_FO_number : ByteArray := prog_4_method_5_code
def y_FO_lengthOf : MethodName := ⟨R_FO, "lengthOf", "(I)I"⟩
abbrev b_FO_lengthOf : ByteArray := prog_4_method_6_code
def y_FO_word : MethodName := ⟨R_FO, "word", "(II)I"⟩
abbrev b_FO_word : ByteArray := prog_4_method_7_code
def y_FO_designSize : MethodName := ⟨R_FO, "designSize", "()I"⟩
abbrev b_FO_designSize : ByteArray := prog_4_method_8_code
def y_FO_scaled : MethodName := ⟨R_FO, "scaled", "(I)I"⟩
abbrev b_FO_scaled : ByteArray := prog_4_method_9_code
def y_FO_character : MethodName := ⟨R_FO, "character", "(I)I"⟩
abbrev b_FO_character : ByteArray := prog_4_method_10_code
def y_FO_isThere : MethodName := ⟨R_FO, "isThere", "(I)Z"⟩
abbrev b_FO_isThere : ByteArray := prog_4_method_11_code
def y_FO_width : MethodName := ⟨R_FO, "width", "(I)I"⟩
abbrev b_FO_width : ByteArray := prog_4_method_12_code
def y_FO_height : MethodName := ⟨R_FO, "height", "(I)I"⟩
abbrev b_FO_height : ByteArray := prog_4_method_13_code
def y_FO_depth : MethodName := ⟨R_FO, "depth", "(I)I"⟩
abbrev b_FO_depth : ByteArray := prog_4_method_14_code
def y_FO_italic : MethodName := ⟨R_FO, "italic", "(I)I"⟩
abbrev b_FO_italic : ByteArray := prog_4_method_15_code
def y_FO_edge : MethodName := ⟨R_FO, "edge", "()I"⟩
abbrev b_FO_edge : ByteArray := prog_4_method_16_code
def y_FO_edgeStart : MethodName := ⟨R_FO, "edgeStart", "()I"⟩
abbrev b_FO_edgeStart : ByteArray := prog_4_method_17_code
def y_FO_find : MethodName := ⟨R_FO, "find", "(II)I"⟩
abbrev b_FO_find : ByteArray := prog_4_method_18_code
def y_FO_programStart : MethodName := ⟨R_FO, "programStart", "(I)I"⟩
abbrev b_FO_programStart : ByteArray := prog_4_method_19_code
def y_FO_startOfCharacter : MethodName := ⟨R_FO, "startOfCharacter", "(I)I"⟩
abbrev b_FO_startOfCharacter : ByteArray := prog_4_method_20_code
def y_FO_kern : MethodName := ⟨R_FO, "kern", "(I)I"⟩
abbrev b_FO_kern : ByteArray := prog_4_method_21_code
def y_FO_byteOf : MethodName := ⟨R_FO, "byteOf", "(II)I"⟩
abbrev b_FO_byteOf : ByteArray := prog_4_method_22_code
def y_FO_target : MethodName := ⟨R_FO, "target", "(I)I"⟩
abbrev b_FO_target : ByteArray := prog_4_method_23_code
def y_FO_saying : MethodName := ⟨R_FO, "saying", "(I)I"⟩
abbrev b_FO_saying : ByteArray := prog_4_method_24_code
def y_FO_widthPlace : MethodName := ⟨R_FO, "widthPlace", "(I)I"⟩
abbrev b_FO_widthPlace : ByteArray := prog_4_method_25_code
def y_FO_heightPlace : MethodName := ⟨R_FO, "heightPlace", "(I)I"⟩
abbrev b_FO_heightPlace : ByteArray := prog_4_method_26_code
def y_FO_depthPlace : MethodName := ⟨R_FO, "depthPlace", "(I)I"⟩
abbrev b_FO_depthPlace : ByteArray := prog_4_method_27_code
def y_FO_italicPlace : MethodName := ⟨R_FO, "italicPlace", "(I)I"⟩
abbrev b_FO_italicPlace : ByteArray := prog_4_method_28_code
def y_FO_tag : MethodName := ⟨R_FO, "tag", "(I)I"⟩
abbrev b_FO_tag : ByteArray := prog_4_method_29_code
def y_FO_rest : MethodName := ⟨R_FO, "rest", "(I)I"⟩
abbrev b_FO_rest : ByteArray := prog_4_method_30_code
def y_LI_init : MethodName := ⟨R_LI, "<init>", "()V"⟩
abbrev b_LI_init : ByteArray := prog_5_method_1_code
def y_LI_clear : MethodName := ⟨R_LI, "clear", "()V"⟩
abbrev b_LI_clear : ByteArray := prog_5_method_2_code
def y_LI_lay : MethodName := ⟨R_LI, "lay", "(LFontMetrics$Font;[II)V"⟩
abbrev b_LI_lay : ByteArray := prog_5_method_3_code
def y_LI_run : MethodName := ⟨R_LI, "run", "(LFontMetrics$Font;)Z"⟩
abbrev b_LI_run : ByteArray := prog_5_method_4_code
def y_LI_step : MethodName := ⟨R_LI, "step", "(LFontMetrics$Font;)V"⟩
abbrev b_LI_step : ByteArray := prog_5_method_5_code
def y_LI_join : MethodName := ⟨R_LI, "join", "(III)V"⟩
abbrev b_LI_join : ByteArray := prog_5_method_6_code
def y_LI_pass : MethodName := ⟨R_LI, "pass", "(I)V"⟩
abbrev b_LI_pass : ByteArray := prog_5_method_7_code
def y_LI_push : MethodName := ⟨R_LI, "push", "(I)V"⟩
abbrev b_LI_push : ByteArray := prog_5_method_8_code
def y_LI_pendingAt : MethodName := ⟨R_LI, "pendingAt", "(I)I"⟩
abbrev b_LI_pendingAt : ByteArray := prog_5_method_9_code
def y_LI_append : MethodName := ⟨R_LI, "append", "(IZ)V"⟩
abbrev b_LI_append : ByteArray := prog_5_method_10_code
def y_LI_kernAt : MethodName := ⟨R_LI, "kernAt", "(I)Z"⟩
abbrev b_LI_kernAt : ByteArray := prog_5_method_11_code
def y_LI_valueAt : MethodName := ⟨R_LI, "valueAt", "(I)I"⟩
abbrev b_LI_valueAt : ByteArray := prog_5_method_12_code
def y_LI_width : MethodName := ⟨R_LI, "width", "(LFontMetrics$Font;)J"⟩
abbrev b_LI_width : ByteArray := prog_5_method_13_code
def y_LW_load : MethodName := ⟨R_LW, "load", "(LFontMetrics;I[J)I"⟩
abbrev b_LW_load : ByteArray := method_3_code
def y_LW_about : MethodName := ⟨R_LW, "about", "(LFontMetrics;I[J)I"⟩
abbrev b_LW_about : ByteArray := method_4_code
def y_LW_of : MethodName := ⟨R_LW, "of", "(LFontMetrics;II[J)I"⟩
abbrev b_LW_of : ByteArray := method_5_code
def y_LW_part : MethodName := ⟨R_LW, "part", "(LFontMetrics;II[J)I"⟩
abbrev b_LW_part : ByteArray := method_6_code
def y_LW_parameter : MethodName := ⟨R_LW, "parameter", "(LFontMetrics;I[J)I"⟩
abbrev b_LW_parameter : ByteArray := method_7_code
def y_LW_ask : MethodName := ⟨R_LW, "ask", "(LFontMetrics;II[J)I"⟩
abbrev b_LW_ask : ByteArray := method_8_code
def y_LW_set : MethodName := ⟨R_LW, "set", "(LFontMetrics;[J)I"⟩
abbrev b_LW_set : ByteArray := method_9_code
def y_LW_isKern : MethodName := ⟨R_LW, "isKern", "(LFontMetrics;I[J)I"⟩
abbrev b_LW_isKern : ByteArray := method_10_code
def y_LW_item : MethodName := ⟨R_LW, "item", "(LFontMetrics;I[J)I"⟩
abbrev b_LW_item : ByteArray := method_11_code
end
section
/-! ROWS OF MY OWN over the kit: one list of words for all methods; contracts of methods that only look -/
/-- the words that stay good in every state of the run -/
def fm_T : List Cond := lw_tbl.filter goodWord
theorem fm_inT {w : Cond} (h : w ∈ lw_tbl) (hg : goodWord w = true) : w ∈ fm_T := List.mem_filter.mpr ⟨h, hg⟩
theorem fm_ofT {w : Cond} (h : w ∈ fm_T) : w ∈ lw_tbl ∧ ((w.onTables && w.keeps) = true ∨ ∃ ty, w = .arrayClass ty) := ⟨(List.mem_filter.mp h).1, good_of_word (List.mem_filter.mp h).2⟩
theorem fm_good {big ws : List Cond} (hb : ∀ w ∈ fm_T, w ∈ big) (h : ∀ w ∈ ws, w ∈ fm_T) : GoodIn big ws := fun w hw => ⟨hb w (h w hw), (fm_ofT (h w hw)).2⟩
theorem fm_allT {y : MethodName} {b : ByteArray} {n : Nat} {r : Option FieldType} (h : Cond.code y b n r ∈ fm_T) : ∀ w ∈ (Cond.code y b n r :: fm_T), w ∈ fm_T := fun w hw => by
  rcases List.mem_cons.mp hw with h1 | h1
  · rw [h1]; exact h
  · exact h1
/-- what is to be known of a static method that is called -/
def fm_Sok (y : MethodName) (b : ByteArray) (n : Nat) (r : Option FieldType) (k : Nat) : Prop :=
  Cond.static y ∈ fm_T ∧ Cond.initialized y.cls ∈ fm_T ∧ Cond.code y b n r ∈ fm_T ∧ (y.cls ≠ "java/lang/invoke/MethodHandle" ∧ y.cls ≠ "java/lang/invoke/VarHandle" ∧ (parseMethodDescriptor y.desc).map (fun d => d.parameters.length) = some k)
/-- ... of a method of an object -/
def fm_Vok (y : MethodName) (b : ByteArray) (n : Nat) (r : Option FieldType) (k : Nat) : Prop :=
  Cond.instanceMethod y ∈ fm_T ∧ Cond.selects y.cls y y ∈ fm_T ∧ Cond.initialized y.cls ∈ fm_T ∧ Cond.code y b n r ∈ fm_T ∧ (y.cls ≠ "java/lang/invoke/MethodHandle" ∧ y.cls ≠ "java/lang/invoke/VarHandle" ∧ (parseMethodDescriptor y.desc).map (fun d => d.parameters.length) = some k)
/-- a method that only looks: from the cells ws, with the arguments av, it answers v and changes nothing -/
def fm_M (l : Launch) (D : va_G) (y : MethodName) (w : List Cond) (rm : Room) (av : List Value) (ws : va_W) (tys : List (ClassId × FieldType)) (v : Int32) : Prop :=
  Met l y w rm (va_Pc av (fun U => va_P D classes ws U.heap ∧ va_K D classes tys U)) (vp_Si (fun r => r = v)) 0 0 (fun _ => False)
def fm_ML (l : Launch) (D : va_G) (y : MethodName) (w : List Cond) (rm : Room) (av : List Value) (ws : va_W) (tys : List (ClassId × FieldType)) (v : Int64) : Prop :=
  Met l y w rm (va_Pc av (fun U => va_P D classes ws U.heap ∧ va_K D classes tys U)) (vp_Sl (fun r => r = v)) 0 0 (fun _ => False)
def fm_MV (l : Launch) (D : va_G) (y : MethodName) (w : List Cond) (rm : Room) (av : List Value) (ws : va_W) (tys : List (ClassId × FieldType)) : Prop :=
  Met l y w rm (va_Pc av (fun U => va_P D classes ws U.heap ∧ va_K D classes tys U)) (va_Sv (fun _ => True)) 0 0 (fun _ => False)
theorem fm_blind {D : va_G} {av : List Value} {ws : va_W} {tys : List (ClassId × FieldType)} : FrameBlind (va_Pc av (fun U => va_P D classes ws U.heap ∧ va_K D classes tys U)) := fun a U g mk q => by
  obtain ⟨q0, qP, qK⟩ := q
  exact ⟨q0, qP, va_K.moved (u := U) (U := U.calling g mk a) (Vm.Alike.refl U.vm) qK⟩
section FMR
variable {p : Program} {l : Launch} {e : Env} {R : Room} {s : State} {m : MethodId} {args : Array Value} {below : List Frame} {meth : Method} {c : Code} {H : Heap} {locs : List Loc} {cells slots : Nat} {Q : State → Prop}
variable {D : va_G} {y : MethodName} {bytes cc : ByteArray} {maxL nL n index pc ci : Nat} {ret : Option FieldType} {rm : Room} {av : List Value} {ws : va_W} {tys : List (ClassId × FieldType)} {cd : Cond} {own : String} {ls : Array Slot} {rest st0 : List Value}
/-- the top value by another name -/
theorem fm_tw {x z : Int32} (h : x = z) (k : W p l e R s m args below meth c H locs cells slots Q (F0 m pc ls (.int z :: rest))) : W p l e R s m args below meth c H locs cells slots Q (F0 m pc ls (.int x :: rest)) := h ▸ k
theorem fm_twl {x z : Int64} (h : x = z) (k : W p l e R s m args below meth c H locs cells slots Q (F0 m pc ls (.long z :: rest))) : W p l e R s m args below meth c H locs cells slots Q (F0 m pc ls (.long x :: rest)) := h ▸ k
theorem fm_runS {w : List Cond} {Qc : Array Value → State → Outcome → State → Prop} (S : CallFix p m c cc nL s args (cd :: fm_T) own) (hM : Met l y (.code y bytes maxL ret :: fm_T) rm (va_Pc av (fun U => va_P D classes ws U.heap ∧ va_K D classes tys U)) Qc 0 0 (fun _ => False)) (hrc : rm.cells = 0) (hrs : rm.slots = 0)
    (ok : fm_Sok y bytes maxL ret n) (h1 : Cond.methodLink own index y ∈ fm_T) (hR : rm.frames + 1 ≤ R.frames ∧ 8 + (maxL + 11) + rm.locals ≤ R.locals) (hP : va_P D classes ws H) (hK : va_K D classes tys s)
    (hn : av.length = n) (hsize : ls.size = nL) (hst : st0 = av.reverse ++ rest) (hW : (rest.map fun v => v.category).sum ≤ 8) (hf : cells ≤ R.cells ∧ slots ≤ R.slots) (hdg : decode cc pc = .ok (.invokestatic index, 3)) :
    CallRun p l e R s m args below meth c H locs cells slots 0 0 (F0 m pc ls st0) rest (Qc av.toArray) (fun _ => False) := by
  obtain ⟨k1, k2, k3, k4⟩ := ok
  have hb : ∀ w ∈ fm_T, w ∈ cd :: fm_T := fun w h => List.mem_cons_of_mem _ h
  refine W.runS S hM (va_cwS n S.2.2.2.2 (ws := .code y bytes maxL ret :: fm_T) (ws' := fm_T) (fm_good hb (fun w hw => ?_)) rfl hrc hrs k4 hR) ⟨fm_blind, fun U hU hWa => ⟨rfl, by rw [hU]; exact hP, va_K.moved hWa.alike hK⟩⟩ rfl hn hsize hst (lv_room hW) hdg hf
  rcases List.mem_append.mp hw with h | h
  · simp only [List.mem_cons, List.not_mem_nil, or_false] at h
    rcases h with h | h | h
    · rw [h]; exact h1
    · rw [h]; exact k1
    · rw [h]; exact k2
  · exact fm_allT k3 w h
theorem fm_cs {v : Int32} (S : CallFix p m c cc nL s args (cd :: fm_T) own) (hM : fm_M l D y (.code y bytes maxL ret :: fm_T) rm av ws tys v) (hrc : rm.cells = 0) (hrs : rm.slots = 0)
    (ok : fm_Sok y bytes maxL ret n) (h1 : Cond.methodLink own index y ∈ fm_T) (hR : rm.frames + 1 ≤ R.frames ∧ 8 + (maxL + 11) + rm.locals ≤ R.locals) (hP : va_P D classes ws H) (hK : va_K D classes tys s)
    (hn : av.length = n) (hsize : ls.size = nL) (hst : st0 = av.reverse ++ rest) (hW : (rest.map fun v => v.category).sum ≤ 8) (hf : cells ≤ R.cells ∧ slots ≤ R.slots) (hdg : decode cc pc = .ok (.invokestatic index, 3))
    (k : W p l e R s m args below meth c H locs cells slots Q (F0 m (pc + 3) ls (.int v :: rest))) : W p l e R s m args below meth c H locs cells slots Q (F0 m pc ls st0) :=
  vp_callSi (fm_runS (w := []) S hM hrc hrs ok h1 hR hP hK hn hsize hst hW hf hdg) (fun r hr => by subst hr; exact k)
theorem fm_runV {Qc : Array Value → State → Outcome → State → Prop} {b : Nat} {As : List Value} {q0 : Nat} {fs : List Value} {T : u_T} {N : Nat} (S : CallFix p m c cc nL s args (cd :: fm_T) own) (hM : Met l y (.code y bytes maxL ret :: fm_T) rm (va_Pc (.ref b :: As) (fun U => va_P D classes ws U.heap ∧ va_K D classes tys U)) Qc 0 0 (fun _ => False)) (hrc : rm.cells = 0) (hrs : rm.slots = 0)
    (ok : fm_Vok y bytes maxL ret n) (h1 : Cond.methodLink own index y ∈ fm_T) (hR : rm.frames + 1 ≤ R.frames ∧ 8 + (maxL + 11) + rm.locals ≤ R.locals) (hP : va_P D classes ws H) (hK : va_K D classes tys s) (q0 : Nat) (he : ws[q0]? = some (b, .inr (ci, fs))) (hc : classes[ci]? = some (y.cls, T, N))
    (hn : As.length = n) (hsize : ls.size = nL) (hst : st0 = As.reverse ++ .ref b :: rest) (hW : (rest.map fun v => v.category).sum ≤ 8) (hf : cells ≤ R.cells ∧ slots ≤ R.slots) (hdg : decode cc pc = .ok (.invokevirtual index, 3)) :
    CallRun p l e R s m args below meth c H locs cells slots 0 0 (F0 m pc ls st0) rest (Qc (Value.ref b :: As).toArray) (fun _ => False) := by
  obtain ⟨k0, k1, k2, k3, k4⟩ := ok
  have hb : ∀ w ∈ fm_T, w ∈ cd :: fm_T := fun w h => List.mem_cons_of_mem _ h
  refine W.runV (C := y.cls) S hM (cwV n S.2.2.2.2 (ws := .code y bytes maxL ret :: fm_T) (ws' := fm_T) (fm_good hb (fun w hw => ?_)) rfl hrc hrs ⟨rfl, k4⟩ hR) ⟨fm_blind, va_recv hK hP hc he, fun U hU hWa => ⟨rfl, by rw [hU]; exact hP, va_K.moved hWa.alike hK⟩⟩ rfl hn hsize hst (lv_room hW) hdg hf
  rcases List.mem_append.mp hw with h | h
  · simp only [List.mem_cons, List.not_mem_nil, or_false] at h
    rcases h with h | h | h | h
    · rw [h]; exact h1
    · rw [h]; exact k0
    · rw [h]; exact k1
    · rw [h]; exact k2
  · exact fm_allT k3 w h
theorem fm_cv {v : Int32} {b : Nat} {As : List Value} {fs : List Value} {T : u_T} {N : Nat} (S : CallFix p m c cc nL s args (cd :: fm_T) own) (hM : fm_M l D y (.code y bytes maxL ret :: fm_T) rm (.ref b :: As) ws tys v) (hrc : rm.cells = 0) (hrs : rm.slots = 0)
    (ok : fm_Vok y bytes maxL ret n) (h1 : Cond.methodLink own index y ∈ fm_T) (hR : rm.frames + 1 ≤ R.frames ∧ 8 + (maxL + 11) + rm.locals ≤ R.locals) (hP : va_P D classes ws H) (hK : va_K D classes tys s) (q0 : Nat) (he : ws[q0]? = some (b, .inr (ci, fs))) (hc : classes[ci]? = some (y.cls, T, N))
    (hn : As.length = n) (hsize : ls.size = nL) (hst : st0 = As.reverse ++ .ref b :: rest) (hW : (rest.map fun v => v.category).sum ≤ 8) (hf : cells ≤ R.cells ∧ slots ≤ R.slots) (hdg : decode cc pc = .ok (.invokevirtual index, 3))
    (k : W p l e R s m args below meth c H locs cells slots Q (F0 m (pc + 3) ls (.int v :: rest))) : W p l e R s m args below meth c H locs cells slots Q (F0 m pc ls st0) :=
  vp_callSi (fm_runV (q0 := q0) S hM hrc hrs ok h1 hR hP hK q0 he hc hn hsize hst hW hf hdg) (fun r hr => by subst hr; exact k)
end FMR
section FML
variable {p : Program} {l : Launch} {e : Env} {R : Room} {s : State} {m : MethodId} {args : Array Value} {below : List Frame} {meth : Method} {c : Code} {H : Heap} {locs : List Loc} {cells slots : Nat} {Q : State → Prop} {pc nL : Nat}
/-- loops over a heap that stays: by a measure that falls -/
theorem fm_loop1 {A1 : Type} (LV : A1 → List (Nat × Value)) (I : A1 → Prop) (μ : A1 → Nat)
    (step : ∀ (a : A1), I a → (∀ (b : A1) (ls : Array Slot), I b → μ b < μ a → lv_has ls nL (LV b) → W p l e R s m args below meth c H locs cells slots Q (F0 m pc ls [])) → ∀ ls : Array Slot, lv_has ls nL (LV a) → W p l e R s m args below meth c H locs cells slots Q (F0 m pc ls []))
    (a : A1) (h : I a) (ls : Array Slot) (hl : lv_has ls nL (LV a)) : W p l e R s m args below meth c H locs cells slots Q (F0 m pc ls []) := by
  have key : ∀ (n : Nat) (a : A1), μ a < n → I a → ∀ ls : Array Slot, lv_has ls nL (LV a) → W p l e R s m args below meth c H locs cells slots Q (F0 m pc ls []) := by
    intro n
    induction n with
    | zero => intro a h; exact absurd h (Nat.not_lt_zero _)
    | succ n ih =>
      intro a ha hI ls hl
      exact step a hI (fun b ls' hb hm hl' => ih b (Nat.lt_of_lt_of_le hm (Nat.lt_succ_iff.mp ha)) hb ls' hl') ls hl
  exact key (μ a + 1) a (Nat.lt_succ_self _) h ls hl
theorem fm_join {q : Nat} {LV : List (Nat × Value)} {g : JFrame} (h : ∀ ls : Array Slot, lv_has ls nL LV → W p l e R s m args below meth c H locs cells slots Q (F0 m q ls []))
    (k : (∀ ls : Array Slot, lv_has ls nL LV → W p l e R s m args below meth c H locs cells slots Q (F0 m q ls [])) → W p l e R s m args below meth c H locs cells slots Q g) : W p l e R s m args below meth c H locs cells slots Q g := k h
theorem fm_loop2 {A1 A2 : Type} (LV : A1 → A2 → List (Nat × Value)) (I : A1 → A2 → Prop) (μ : A1 → A2 → Nat)
    (step : ∀ (a : A1) (a2 : A2), I a a2 → (∀ (b : A1) (b2 : A2) (ls : Array Slot), I b b2 → μ b b2 < μ a a2 → lv_has ls nL (LV b b2) → W p l e R s m args below meth c H locs cells slots Q (F0 m pc ls [])) → ∀ ls : Array Slot, lv_has ls nL (LV a a2) → W p l e R s m args below meth c H locs cells slots Q (F0 m pc ls []))
    (a : A1) (a2 : A2) (h : I a a2) (ls : Array Slot) (hl : lv_has ls nL (LV a a2)) : W p l e R s m args below meth c H locs cells slots Q (F0 m pc ls []) :=
  fm_loop1 (A1 := A1 × A2) (fun q => LV q.1 q.2) (fun q => I q.1 q.2) (fun q => μ q.1 q.2) (fun q hq ih ls hl => step q.1 q.2 hq (fun b b2 ls' h1 h2 h3 => ih (b, b2) ls' h1 h2 h3) ls hl) (a, a2) h ls hl
theorem fm_loop3 {A1 A2 A3 : Type} (LV : A1 → A2 → A3 → List (Nat × Value)) (I : A1 → A2 → A3 → Prop) (μ : A1 → A2 → A3 → Nat)
    (step : ∀ (a : A1) (a2 : A2) (a3 : A3), I a a2 a3 → (∀ (b : A1) (b2 : A2) (b3 : A3) (ls : Array Slot), I b b2 b3 → μ b b2 b3 < μ a a2 a3 → lv_has ls nL (LV b b2 b3) → W p l e R s m args below meth c H locs cells slots Q (F0 m pc ls [])) → ∀ ls : Array Slot, lv_has ls nL (LV a a2 a3) → W p l e R s m args below meth c H locs cells slots Q (F0 m pc ls []))
    (a : A1) (a2 : A2) (a3 : A3) (h : I a a2 a3) (ls : Array Slot) (hl : lv_has ls nL (LV a a2 a3)) : W p l e R s m args below meth c H locs cells slots Q (F0 m pc ls []) :=
  fm_loop1 (A1 := A1 × A2 × A3) (fun q => LV q.1 q.2.1 q.2.2) (fun q => I q.1 q.2.1 q.2.2) (fun q => μ q.1 q.2.1 q.2.2) (fun q hq ih ls hl => step q.1 q.2.1 q.2.2 hq (fun b b2 b3 ls' h1 h2 h3 => ih (b, b2, b3) ls' h1 h2 h3) ls hl) (a, a2, a3) h ls hl
end FML
end
section
theorem q_1_0 : Cond.initialized R_LW ∈ fm_T := fm_inT (List.mem_append_right _ (List.mem_append_left _ (List.mem_of_getElem? (i := 0) rfl))) rfl
theorem q_1_1 : Cond.initialized R_FM ∈ fm_T := fm_inT (List.mem_append_right _ (List.mem_append_left _ (List.mem_of_getElem? (i := 1) rfl))) rfl
theorem q_1_2 : Cond.initialized R_BF ∈ fm_T := fm_inT (List.mem_append_right _ (List.mem_append_left _ (List.mem_of_getElem? (i := 2) rfl))) rfl
theorem q_1_3 : Cond.initialized R_LI ∈ fm_T := fm_inT (List.mem_append_right _ (List.mem_append_left _ (List.mem_of_getElem? (i := 3) rfl))) rfl
theorem q_1_4 : Cond.initialized R_FO ∈ fm_T := fm_inT (List.mem_append_right _ (List.mem_append_left _ (List.mem_of_getElem? (i := 4) rfl))) rfl
theorem q_1_5 : Cond.initialized R_MO ∈ fm_T := fm_inT (List.mem_append_right _ (List.mem_append_left _ (List.mem_of_getElem? (i := 5) rfl))) rfl
theorem q_1_6 : Cond.initialized "java/lang/Throwable" ∈ fm_T := fm_inT (List.mem_append_right _ (List.mem_append_left _ (List.mem_of_getElem? (i := 6) rfl))) rfl
theorem q_1_7 : Cond.initialized "java/lang/Exception" ∈ fm_T := fm_inT (List.mem_append_right _ (List.mem_append_left _ (List.mem_of_getElem? (i := 7) rfl))) rfl
theorem q_1_8 : Cond.initialized "java/lang/RuntimeException" ∈ fm_T := fm_inT (List.mem_append_right _ (List.mem_append_left _ (List.mem_of_getElem? (i := 8) rfl))) rfl
theorem q_1_9 : Cond.initialized "java/lang/IllegalArgumentException" ∈ fm_T := fm_inT (List.mem_append_right _ (List.mem_append_left _ (List.mem_of_getElem? (i := 9) rfl))) rfl
theorem q_1_10 : Cond.initialized "java/lang/Math" ∈ fm_T := fm_inT (List.mem_append_right _ (List.mem_append_left _ (List.mem_of_getElem? (i := 10) rfl))) rfl
theorem q_1_11 : Cond.initialized "java/lang/System" ∈ fm_T := fm_inT (List.mem_append_right _ (List.mem_append_left _ (List.mem_of_getElem? (i := 11) rfl))) rfl
theorem q_1_12 : Cond.initialized R_FA ∈ fm_T := fm_inT (List.mem_append_right _ (List.mem_append_left _ (List.mem_of_getElem? (i := 12) rfl))) rfl
theorem q_1_13 : Cond.initialized "java/lang/IllegalStateException" ∈ fm_T := fm_inT (List.mem_append_right _ (List.mem_append_left _ (List.mem_of_getElem? (i := 13) rfl))) rfl
theorem q_1_14 : Cond.initialized "java/lang/IndexOutOfBoundsException" ∈ fm_T := fm_inT (List.mem_append_right _ (List.mem_append_left _ (List.mem_of_getElem? (i := 14) rfl))) rfl
theorem q_1_15 : Cond.classLink R_LW 8 "FontMetrics" ∈ fm_T := fm_inT (List.mem_append_right _ (List.mem_append_left _ (List.mem_of_getElem? (i := 15) rfl))) rfl
theorem q_1_16 : Cond.instantiable R_FM 7 ∈ fm_T := fm_inT (List.mem_append_right _ (List.mem_append_left _ (List.mem_of_getElem? (i := 16) rfl))) rfl
theorem q_1_17 : Cond.methodLink R_LW 46 y_FM_init ∈ fm_T := fm_inT (List.mem_append_right _ (List.mem_append_left _ (List.mem_of_getElem? (i := 17) rfl))) rfl
theorem q_1_18 : Cond.instanceMethod y_FM_init ∈ fm_T := fm_inT (List.mem_append_right _ (List.mem_append_left _ (List.mem_of_getElem? (i := 18) rfl))) rfl
theorem q_1_19 : Cond.code y_FM_init prog_1_method_1_code 1 none ∈ fm_T := fm_inT (List.mem_append_right _ (List.mem_append_left _ (List.mem_of_getElem? (i := 19) rfl))) rfl
theorem q_1_20 : Cond.methodLink R_FM 1 (⟨"java/lang/Object", "<init>", "()V"⟩ : MethodName) ∈ fm_T := fm_inT (List.mem_append_right _ (List.mem_append_left _ (List.mem_of_getElem? (i := 20) rfl))) rfl
theorem q_1_21 : Cond.instanceMethod (⟨"java/lang/Object", "<init>", "()V"⟩ : MethodName) ∈ fm_T := fm_inT (List.mem_append_right _ (List.mem_append_left _ (List.mem_of_getElem? (i := 21) rfl))) rfl
theorem q_1_22 : Cond.code (⟨"java/lang/Object", "<init>", "()V"⟩ : MethodName) object_method_1_code 1 none ∈ fm_T := fm_inT (List.mem_append_right _ (List.mem_append_left _ (List.mem_of_getElem? (i := 22) rfl))) rfl
theorem q_1_23 : Cond.classLink R_FM 7 "FontMetrics$ByteFile" ∈ fm_T := fm_inT (List.mem_append_right _ (List.mem_append_left _ (List.mem_of_getElem? (i := 23) rfl))) rfl
theorem q_1_24 : Cond.instantiable R_BF 2 ∈ fm_T := fm_inT (List.mem_append_right _ (List.mem_append_left _ (List.mem_of_getElem? (i := 24) rfl))) rfl
theorem q_1_25 : Cond.methodLink R_FM 9 y_BF_init ∈ fm_T := fm_inT (List.mem_append_right _ (List.mem_append_left _ (List.mem_of_getElem? (i := 25) rfl))) rfl
theorem q_1_26 : Cond.instanceMethod y_BF_init ∈ fm_T := fm_inT (List.mem_append_right _ (List.mem_append_left _ (List.mem_of_getElem? (i := 26) rfl))) rfl
theorem q_1_27 : Cond.code y_BF_init prog_2_method_1_code 1 none ∈ fm_T := fm_inT (List.mem_append_right _ (List.mem_append_left _ (List.mem_of_getElem? (i := 27) rfl))) rfl
theorem q_1_28 : Cond.methodLink R_BF 3 (⟨"java/lang/Object", "<init>", "()V"⟩ : MethodName) ∈ fm_T := fm_inT (List.mem_append_right _ (List.mem_append_left _ (List.mem_of_getElem? (i := 28) rfl))) rfl
theorem q_1_29 : Cond.fieldLink R_BF 9 "FontMetrics$ByteFile" "words" "[I" ∈ fm_T := fm_inT (List.mem_append_right _ (List.mem_append_left _ (List.mem_of_getElem? (i := 29) rfl))) rfl
theorem q_1_30 : Cond.fieldLink R_FM 61 "FontMetrics$ByteFile" "words" "[I" ∈ fm_T := fm_inT (List.mem_append_right _ (List.mem_append_left _ (List.mem_of_getElem? (i := 30) rfl))) rfl
theorem q_1_31 : Cond.fieldLink R_BF 13 "FontMetrics$ByteFile" "length" "I" ∈ fm_T := fm_inT (List.mem_append_right _ (List.mem_append_left _ (List.mem_of_getElem? (i := 31) rfl))) rfl
theorem q_1_32 : Cond.fieldLink R_FM 68 "FontMetrics$ByteFile" "length" "I" ∈ fm_T := fm_inT (List.mem_append_right _ (List.mem_append_left _ (List.mem_of_getElem? (i := 32) rfl))) rfl
theorem q_1_33 : Cond.laysFinal R_BF "FontMetrics$ByteFile" "words" "[I" ∈ fm_T := fm_inT (List.mem_append_right _ (List.mem_append_left _ (List.mem_of_getElem? (i := 33) rfl))) rfl
theorem q_1_35 : Cond.lays R_BF "FontMetrics$ByteFile" "length" "I" ∈ fm_T := fm_inT (List.mem_append_right _ (List.mem_append_left _ (List.mem_of_getElem? (i := 35) rfl))) rfl
theorem q_1_38 : Cond.arrayClass FieldType.int ∈ fm_T := fm_inT (List.mem_append_right _ (List.mem_append_left _ (List.mem_of_getElem? (i := 38) rfl))) rfl
theorem q_1_39 : Cond.classLink R_FM 16 "FontMetrics$Line" ∈ fm_T := fm_inT (List.mem_append_right _ (List.mem_append_left _ (List.mem_of_getElem? (i := 39) rfl))) rfl
theorem q_1_40 : Cond.instantiable R_LI 5 ∈ fm_T := fm_inT (List.mem_append_right _ (List.mem_append_left _ (List.mem_of_getElem? (i := 40) rfl))) rfl
theorem q_1_41 : Cond.methodLink R_FM 18 y_LI_init ∈ fm_T := fm_inT (List.mem_append_right _ (List.mem_append_left _ (List.mem_of_getElem? (i := 41) rfl))) rfl
theorem q_1_42 : Cond.instanceMethod y_LI_init ∈ fm_T := fm_inT (List.mem_append_right _ (List.mem_append_left _ (List.mem_of_getElem? (i := 42) rfl))) rfl
theorem q_1_43 : Cond.code y_LI_init prog_5_method_1_code 1 none ∈ fm_T := fm_inT (List.mem_append_right _ (List.mem_append_left _ (List.mem_of_getElem? (i := 43) rfl))) rfl
theorem q_1_44 : Cond.methodLink R_LI 5 (⟨"java/lang/Object", "<init>", "()V"⟩ : MethodName) ∈ fm_T := fm_inT (List.mem_append_right _ (List.mem_append_left _ (List.mem_of_getElem? (i := 44) rfl))) rfl
theorem q_1_45 : Cond.fieldLink R_LI 11 "FontMetrics$Line" "pending" "[I" ∈ fm_T := fm_inT (List.mem_append_right _ (List.mem_append_left _ (List.mem_of_getElem? (i := 45) rfl))) rfl
theorem q_1_46 : Cond.fieldLink R_LI 15 "FontMetrics$Line" "values" "[I" ∈ fm_T := fm_inT (List.mem_append_right _ (List.mem_append_left _ (List.mem_of_getElem? (i := 46) rfl))) rfl
theorem q_1_47 : Cond.fieldLink R_LI 18 "FontMetrics$Line" "kerns" "[Z" ∈ fm_T := fm_inT (List.mem_append_right _ (List.mem_append_left _ (List.mem_of_getElem? (i := 47) rfl))) rfl
theorem q_1_48 : Cond.fieldLink R_LI 22 "FontMetrics$Line" "left" "I" ∈ fm_T := fm_inT (List.mem_append_right _ (List.mem_append_left _ (List.mem_of_getElem? (i := 48) rfl))) rfl
theorem q_1_49 : Cond.fieldLink R_LI 26 "FontMetrics$Line" "count" "I" ∈ fm_T := fm_inT (List.mem_append_right _ (List.mem_append_left _ (List.mem_of_getElem? (i := 49) rfl))) rfl
theorem q_1_50 : Cond.fieldLink R_FM 178 "FontMetrics$Line" "count" "I" ∈ fm_T := fm_inT (List.mem_append_right _ (List.mem_append_left _ (List.mem_of_getElem? (i := 50) rfl))) rfl
theorem q_1_51 : Cond.laysFinal R_LI "FontMetrics$Line" "pending" "[I" ∈ fm_T := fm_inT (List.mem_append_right _ (List.mem_append_left _ (List.mem_of_getElem? (i := 51) rfl))) rfl
theorem q_1_53 : Cond.laysFinal R_LI "FontMetrics$Line" "values" "[I" ∈ fm_T := fm_inT (List.mem_append_right _ (List.mem_append_left _ (List.mem_of_getElem? (i := 53) rfl))) rfl
theorem q_1_55 : Cond.laysFinal R_LI "FontMetrics$Line" "kerns" "[Z" ∈ fm_T := fm_inT (List.mem_append_right _ (List.mem_append_left _ (List.mem_of_getElem? (i := 55) rfl))) rfl
theorem q_1_57 : Cond.lays R_LI "FontMetrics$Line" "left" "I" ∈ fm_T := fm_inT (List.mem_append_right _ (List.mem_append_left _ (List.mem_of_getElem? (i := 57) rfl))) rfl
theorem q_1_59 : Cond.lays R_LI "FontMetrics$Line" "count" "I" ∈ fm_T := fm_inT (List.mem_append_right _ (List.mem_append_left _ (List.mem_of_getElem? (i := 59) rfl))) rfl
theorem q_1_62 : Cond.arrayClass FieldType.boolean ∈ fm_T := fm_inT (List.mem_append_right _ (List.mem_append_left _ (List.mem_of_getElem? (i := 62) rfl))) rfl
theorem q_1_63 : Cond.classLink R_FM 31 "FontMetrics$Font" ∈ fm_T := fm_inT (List.mem_append_right _ (List.mem_append_left _ (List.mem_of_getElem? (i := 63) rfl))) rfl
theorem q_1_64 : Cond.instantiable R_FO 8 ∈ fm_T := fm_inT (List.mem_append_right _ (List.mem_append_left _ (List.mem_of_getElem? (i := 64) rfl))) rfl
theorem q_1_65 : Cond.methodLink R_FM 33 y_FO_init ∈ fm_T := fm_inT (List.mem_append_right _ (List.mem_append_left _ (List.mem_of_getElem? (i := 65) rfl))) rfl
theorem q_1_66 : Cond.instanceMethod y_FO_init ∈ fm_T := fm_inT (List.mem_append_right _ (List.mem_append_left _ (List.mem_of_getElem? (i := 66) rfl))) rfl
theorem q_1_67 : Cond.code y_FO_init prog_4_method_1_code 1 none ∈ fm_T := fm_inT (List.mem_append_right _ (List.mem_append_left _ (List.mem_of_getElem? (i := 67) rfl))) rfl
theorem q_1_68 : Cond.methodLink R_FO 3 (⟨"java/lang/Object", "<init>", "()V"⟩ : MethodName) ∈ fm_T := fm_inT (List.mem_append_right _ (List.mem_append_left _ (List.mem_of_getElem? (i := 68) rfl))) rfl
theorem q_1_69 : Cond.fieldLink R_FO 11 "FontMetrics$Font" "words" "[I" ∈ fm_T := fm_inT (List.mem_append_right _ (List.mem_append_left _ (List.mem_of_getElem? (i := 69) rfl))) rfl
theorem q_1_70 : Cond.fieldLink R_FO 17 "FontMetrics$Font" "starts" "[I" ∈ fm_T := fm_inT (List.mem_append_right _ (List.mem_append_left _ (List.mem_of_getElem? (i := 70) rfl))) rfl
theorem q_1_71 : Cond.fieldLink R_FO 20 "FontMetrics$Font" "lengths" "[I" ∈ fm_T := fm_inT (List.mem_append_right _ (List.mem_append_left _ (List.mem_of_getElem? (i := 71) rfl))) rfl
theorem q_1_72 : Cond.fieldLink R_FA 15 "FontMetrics$Font" "bc" "I" ∈ fm_T := fm_inT (List.mem_append_right _ (List.mem_append_left _ (List.mem_of_getElem? (i := 72) rfl))) rfl
theorem q_1_73 : Cond.fieldLink R_FO 39 "FontMetrics$Font" "bc" "I" ∈ fm_T := fm_inT (List.mem_append_right _ (List.mem_append_left _ (List.mem_of_getElem? (i := 73) rfl))) rfl
theorem q_1_74 : Cond.fieldLink R_FM 95 "FontMetrics$Font" "bc" "I" ∈ fm_T := fm_inT (List.mem_append_right _ (List.mem_append_left _ (List.mem_of_getElem? (i := 74) rfl))) rfl
theorem q_1_75 : Cond.fieldLink R_FA 19 "FontMetrics$Font" "ec" "I" ∈ fm_T := fm_inT (List.mem_append_right _ (List.mem_append_left _ (List.mem_of_getElem? (i := 75) rfl))) rfl
theorem q_1_76 : Cond.fieldLink R_FO 43 "FontMetrics$Font" "ec" "I" ∈ fm_T := fm_inT (List.mem_append_right _ (List.mem_append_left _ (List.mem_of_getElem? (i := 76) rfl))) rfl
theorem q_1_77 : Cond.fieldLink R_FM 98 "FontMetrics$Font" "ec" "I" ∈ fm_T := fm_inT (List.mem_append_right _ (List.mem_append_left _ (List.mem_of_getElem? (i := 77) rfl))) rfl
theorem q_1_78 : Cond.fieldLink R_FO 49 "FontMetrics$Font" "size" "I" ∈ fm_T := fm_inT (List.mem_append_right _ (List.mem_append_left _ (List.mem_of_getElem? (i := 78) rfl))) rfl
theorem q_1_79 : Cond.fieldLink R_FM 101 "FontMetrics$Font" "size" "I" ∈ fm_T := fm_inT (List.mem_append_right _ (List.mem_append_left _ (List.mem_of_getElem? (i := 79) rfl))) rfl
theorem q_1_80 : Cond.fieldLink R_FO 52 "FontMetrics$Font" "scale" "I" ∈ fm_T := fm_inT (List.mem_append_right _ (List.mem_append_left _ (List.mem_of_getElem? (i := 80) rfl))) rfl
theorem q_1_81 : Cond.fieldLink R_FO 55 "FontMetrics$Font" "halvings" "I" ∈ fm_T := fm_inT (List.mem_append_right _ (List.mem_append_left _ (List.mem_of_getElem? (i := 81) rfl))) rfl
theorem q_1_82 : Cond.laysFinal R_FO "FontMetrics$Font" "words" "[I" ∈ fm_T := fm_inT (List.mem_append_right _ (List.mem_append_left _ (List.mem_of_getElem? (i := 82) rfl))) rfl
theorem q_1_84 : Cond.laysFinal R_FO "FontMetrics$Font" "starts" "[I" ∈ fm_T := fm_inT (List.mem_append_right _ (List.mem_append_left _ (List.mem_of_getElem? (i := 84) rfl))) rfl
theorem q_1_86 : Cond.laysFinal R_FO "FontMetrics$Font" "lengths" "[I" ∈ fm_T := fm_inT (List.mem_append_right _ (List.mem_append_left _ (List.mem_of_getElem? (i := 86) rfl))) rfl
theorem q_1_88 : Cond.lays R_FO "FontMetrics$Font" "bc" "I" ∈ fm_T := fm_inT (List.mem_append_right _ (List.mem_append_left _ (List.mem_of_getElem? (i := 88) rfl))) rfl
theorem q_1_90 : Cond.lays R_FO "FontMetrics$Font" "ec" "I" ∈ fm_T := fm_inT (List.mem_append_right _ (List.mem_append_left _ (List.mem_of_getElem? (i := 90) rfl))) rfl
theorem q_1_92 : Cond.lays R_FO "FontMetrics$Font" "size" "I" ∈ fm_T := fm_inT (List.mem_append_right _ (List.mem_append_left _ (List.mem_of_getElem? (i := 92) rfl))) rfl
theorem q_1_94 : Cond.lays R_FO "FontMetrics$Font" "scale" "I" ∈ fm_T := fm_inT (List.mem_append_right _ (List.mem_append_left _ (List.mem_of_getElem? (i := 94) rfl))) rfl
theorem q_1_96 : Cond.lays R_FO "FontMetrics$Font" "halvings" "I" ∈ fm_T := fm_inT (List.mem_append_right _ (List.mem_append_left _ (List.mem_of_getElem? (i := 96) rfl))) rfl
theorem q_1_99 : Cond.fieldLink R_FM 10 "FontMetrics" "file" "LFontMetrics$ByteFile;" ∈ fm_T := fm_inT (List.mem_append_right _ (List.mem_append_left _ (List.mem_of_getElem? (i := 99) rfl))) rfl
theorem q_1_100 : Cond.fieldLink R_FM 19 "FontMetrics" "line" "LFontMetrics$Line;" ∈ fm_T := fm_inT (List.mem_append_right _ (List.mem_append_left _ (List.mem_of_getElem? (i := 100) rfl))) rfl
theorem q_1_101 : Cond.fieldLink R_FM 23 "FontMetrics" "row" "[I" ∈ fm_T := fm_inT (List.mem_append_right _ (List.mem_append_left _ (List.mem_of_getElem? (i := 101) rfl))) rfl
theorem q_1_102 : Cond.fieldLink R_FM 27 "FontMetrics" "rowLength" "I" ∈ fm_T := fm_inT (List.mem_append_right _ (List.mem_append_left _ (List.mem_of_getElem? (i := 102) rfl))) rfl
theorem q_1_103 : Cond.fieldLink R_FM 34 "FontMetrics" "font" "LFontMetrics$Font;" ∈ fm_T := fm_inT (List.mem_append_right _ (List.mem_append_left _ (List.mem_of_getElem? (i := 103) rfl))) rfl
theorem q_1_104 : Cond.fieldLink R_FM 38 "FontMetrics" "spare" "LFontMetrics$Font;" ∈ fm_T := fm_inT (List.mem_append_right _ (List.mem_append_left _ (List.mem_of_getElem? (i := 104) rfl))) rfl
theorem q_1_105 : Cond.fieldLink R_FM 41 "FontMetrics" "loaded" "Z" ∈ fm_T := fm_inT (List.mem_append_right _ (List.mem_append_left _ (List.mem_of_getElem? (i := 105) rfl))) rfl
theorem q_1_106 : Cond.laysFinal R_FM "FontMetrics" "file" "LFontMetrics$ByteFile;" ∈ fm_T := fm_inT (List.mem_append_right _ (List.mem_append_left _ (List.mem_of_getElem? (i := 106) rfl))) rfl
theorem q_1_108 : Cond.laysFinal R_FM "FontMetrics" "line" "LFontMetrics$Line;" ∈ fm_T := fm_inT (List.mem_append_right _ (List.mem_append_left _ (List.mem_of_getElem? (i := 108) rfl))) rfl
theorem q_1_110 : Cond.laysFinal R_FM "FontMetrics" "row" "[I" ∈ fm_T := fm_inT (List.mem_append_right _ (List.mem_append_left _ (List.mem_of_getElem? (i := 110) rfl))) rfl
theorem q_1_112 : Cond.lays R_FM "FontMetrics" "rowLength" "I" ∈ fm_T := fm_inT (List.mem_append_right _ (List.mem_append_left _ (List.mem_of_getElem? (i := 112) rfl))) rfl
theorem q_1_114 : Cond.lays R_FM "FontMetrics" "font" "LFontMetrics$Font;" ∈ fm_T := fm_inT (List.mem_append_right _ (List.mem_append_left _ (List.mem_of_getElem? (i := 114) rfl))) rfl
theorem q_1_116 : Cond.lays R_FM "FontMetrics" "spare" "LFontMetrics$Font;" ∈ fm_T := fm_inT (List.mem_append_right _ (List.mem_append_left _ (List.mem_of_getElem? (i := 116) rfl))) rfl
theorem q_1_118 : Cond.lays R_FM "FontMetrics" "loaded" "Z" ∈ fm_T := fm_inT (List.mem_append_right _ (List.mem_append_left _ (List.mem_of_getElem? (i := 118) rfl))) rfl
theorem q_1_121 : Cond.methodLink R_LW 52 y_FM_feed ∈ fm_T := fm_inT (List.mem_append_right _ (List.mem_append_left _ (List.mem_of_getElem? (i := 121) rfl))) rfl
theorem q_1_122 : Cond.instanceMethod y_FM_feed ∈ fm_T := fm_inT (List.mem_append_right _ (List.mem_append_left _ (List.mem_of_getElem? (i := 122) rfl))) rfl
theorem q_1_123 : Cond.selects R_FM y_FM_feed y_FM_feed ∈ fm_T := fm_inT (List.mem_append_right _ (List.mem_append_left _ (List.mem_of_getElem? (i := 123) rfl))) rfl
theorem q_1_124 : Cond.code y_FM_feed prog_1_method_2_code 4 (some .boolean) ∈ fm_T := fm_inT (List.mem_append_right _ (List.mem_append_left _ (List.mem_of_getElem? (i := 124) rfl))) rfl
theorem q_1_125 : Cond.methodLink R_FM 45 y_BF_append ∈ fm_T := fm_inT (List.mem_append_right _ (List.mem_append_left _ (List.mem_of_getElem? (i := 125) rfl))) rfl
theorem q_1_126 : Cond.instanceMethod y_BF_append ∈ fm_T := fm_inT (List.mem_append_right _ (List.mem_append_left _ (List.mem_of_getElem? (i := 126) rfl))) rfl
theorem q_1_127 : Cond.selects R_BF y_BF_append y_BF_append ∈ fm_T := fm_inT (List.mem_append_right _ (List.mem_append_left _ (List.mem_of_getElem? (i := 127) rfl))) rfl
theorem q_1_128 : Cond.code y_BF_append prog_2_method_2_code 5 (some .boolean) ∈ fm_T := fm_inT (List.mem_append_right _ (List.mem_append_left _ (List.mem_of_getElem? (i := 128) rfl))) rfl
theorem q_1_129 : Cond.methodLink R_BF 17 y_BF_put ∈ fm_T := fm_inT (List.mem_append_right _ (List.mem_append_left _ (List.mem_of_getElem? (i := 129) rfl))) rfl
theorem q_1_131 : Cond.instanceMethod y_BF_put ∈ fm_T := fm_inT (List.mem_append_right _ (List.mem_append_left _ (List.mem_of_getElem? (i := 131) rfl))) rfl
theorem q_1_132 : Cond.code y_BF_put prog_2_method_4_code 4 none ∈ fm_T := fm_inT (List.mem_append_right _ (List.mem_append_left _ (List.mem_of_getElem? (i := 132) rfl))) rfl
theorem q_1_133 : Cond.methodLink R_LW 57 y_FM_keep ∈ fm_T := fm_inT (List.mem_append_right _ (List.mem_append_left _ (List.mem_of_getElem? (i := 133) rfl))) rfl
theorem q_1_134 : Cond.instanceMethod y_FM_keep ∈ fm_T := fm_inT (List.mem_append_right _ (List.mem_append_left _ (List.mem_of_getElem? (i := 134) rfl))) rfl
theorem q_1_135 : Cond.selects R_FM y_FM_keep y_FM_keep ∈ fm_T := fm_inT (List.mem_append_right _ (List.mem_append_left _ (List.mem_of_getElem? (i := 135) rfl))) rfl
theorem q_1_136 : Cond.code y_FM_keep prog_1_method_3_code 2 (some .boolean) ∈ fm_T := fm_inT (List.mem_append_right _ (List.mem_append_left _ (List.mem_of_getElem? (i := 136) rfl))) rfl
theorem q_1_137 : Cond.methodLink R_FM 49 y_BF_cut ∈ fm_T := fm_inT (List.mem_append_right _ (List.mem_append_left _ (List.mem_of_getElem? (i := 137) rfl))) rfl
theorem q_1_138 : Cond.instanceMethod y_BF_cut ∈ fm_T := fm_inT (List.mem_append_right _ (List.mem_append_left _ (List.mem_of_getElem? (i := 138) rfl))) rfl
theorem q_1_139 : Cond.selects R_BF y_BF_cut y_BF_cut ∈ fm_T := fm_inT (List.mem_append_right _ (List.mem_append_left _ (List.mem_of_getElem? (i := 139) rfl))) rfl
theorem q_1_140 : Cond.code y_BF_cut prog_2_method_3_code 2 (some .boolean) ∈ fm_T := fm_inT (List.mem_append_right _ (List.mem_append_left _ (List.mem_of_getElem? (i := 140) rfl))) rfl
theorem q_1_141 : Cond.methodLink R_LW 73 y_FM_has ∈ fm_T := fm_inT (List.mem_append_right _ (List.mem_append_left _ (List.mem_of_getElem? (i := 141) rfl))) rfl
theorem q_1_142 : Cond.instanceMethod y_FM_has ∈ fm_T := fm_inT (List.mem_append_right _ (List.mem_append_left _ (List.mem_of_getElem? (i := 142) rfl))) rfl
theorem q_1_143 : Cond.selects R_FM y_FM_has y_FM_has ∈ fm_T := fm_inT (List.mem_append_right _ (List.mem_append_left _ (List.mem_of_getElem? (i := 143) rfl))) rfl
theorem q_1_144 : Cond.code y_FM_has prog_1_method_6_code 2 (some .boolean) ∈ fm_T := fm_inT (List.mem_append_right _ (List.mem_append_left _ (List.mem_of_getElem? (i := 144) rfl))) rfl
theorem q_1_145 : Cond.methodLink R_FM 119 y_FO_isThere ∈ fm_T := fm_inT (List.mem_append_right _ (List.mem_append_left _ (List.mem_of_getElem? (i := 145) rfl))) rfl
theorem q_1_146 : Cond.instanceMethod y_FO_isThere ∈ fm_T := fm_inT (List.mem_append_right _ (List.mem_append_left _ (List.mem_of_getElem? (i := 146) rfl))) rfl
theorem q_1_147 : Cond.selects R_FO y_FO_isThere y_FO_isThere ∈ fm_T := fm_inT (List.mem_append_right _ (List.mem_append_left _ (List.mem_of_getElem? (i := 147) rfl))) rfl
theorem q_1_148 : Cond.code y_FO_isThere prog_4_method_11_code 2 (some .boolean) ∈ fm_T := fm_inT (List.mem_append_right _ (List.mem_append_left _ (List.mem_of_getElem? (i := 148) rfl))) rfl
theorem q_1_149 : Cond.methodLink R_FO 67 y_FO_character ∈ fm_T := fm_inT (List.mem_append_right _ (List.mem_append_left _ (List.mem_of_getElem? (i := 149) rfl))) rfl
theorem q_1_150 : Cond.instanceMethod y_FO_character ∈ fm_T := fm_inT (List.mem_append_right _ (List.mem_append_left _ (List.mem_of_getElem? (i := 150) rfl))) rfl
theorem q_1_151 : Cond.selects R_FO y_FO_character y_FO_character ∈ fm_T := fm_inT (List.mem_append_right _ (List.mem_append_left _ (List.mem_of_getElem? (i := 151) rfl))) rfl
theorem q_1_152 : Cond.code y_FO_character prog_4_method_10_code 2 (some .int) ∈ fm_T := fm_inT (List.mem_append_right _ (List.mem_append_left _ (List.mem_of_getElem? (i := 152) rfl))) rfl
theorem q_1_153 : Cond.methodLink R_FO 60 y_FO_word ∈ fm_T := fm_inT (List.mem_append_right _ (List.mem_append_left _ (List.mem_of_getElem? (i := 153) rfl))) rfl
theorem q_1_154 : Cond.instanceMethod y_FO_word ∈ fm_T := fm_inT (List.mem_append_right _ (List.mem_append_left _ (List.mem_of_getElem? (i := 154) rfl))) rfl
theorem q_1_155 : Cond.selects R_FO y_FO_word y_FO_word ∈ fm_T := fm_inT (List.mem_append_right _ (List.mem_append_left _ (List.mem_of_getElem? (i := 155) rfl))) rfl
theorem q_1_156 : Cond.code y_FO_word prog_4_method_7_code 4 (some .int) ∈ fm_T := fm_inT (List.mem_append_right _ (List.mem_append_left _ (List.mem_of_getElem? (i := 156) rfl))) rfl
theorem q_1_157 : Cond.methodLink R_FO 70 y_FO_widthPlace ∈ fm_T := fm_inT (List.mem_append_right _ (List.mem_append_left _ (List.mem_of_getElem? (i := 157) rfl))) rfl
theorem q_1_158 : Cond.static y_FO_widthPlace ∈ fm_T := fm_inT (List.mem_append_right _ (List.mem_append_left _ (List.mem_of_getElem? (i := 158) rfl))) rfl
theorem q_1_159 : Cond.code y_FO_widthPlace prog_4_method_25_code 1 (some .int) ∈ fm_T := fm_inT (List.mem_append_right _ (List.mem_append_left _ (List.mem_of_getElem? (i := 159) rfl))) rfl
theorem q_1_160 : Cond.methodLink R_LW 90 y_FM_add ∈ fm_T := fm_inT (List.mem_append_right _ (List.mem_append_left _ (List.mem_of_getElem? (i := 160) rfl))) rfl
theorem q_1_161 : Cond.instanceMethod y_FM_add ∈ fm_T := fm_inT (List.mem_append_right _ (List.mem_append_left _ (List.mem_of_getElem? (i := 161) rfl))) rfl
theorem q_1_162 : Cond.selects R_FM y_FM_add y_FM_add ∈ fm_T := fm_inT (List.mem_append_right _ (List.mem_append_left _ (List.mem_of_getElem? (i := 162) rfl))) rfl
theorem q_1_163 : Cond.code y_FM_add prog_1_method_11_code 2 (some .boolean) ∈ fm_T := fm_inT (List.mem_append_right _ (List.mem_append_left _ (List.mem_of_getElem? (i := 163) rfl))) rfl
theorem q_1_164 : Cond.methodLink R_LW 104 y_FM_total ∈ fm_T := fm_inT (List.mem_append_right _ (List.mem_append_left _ (List.mem_of_getElem? (i := 164) rfl))) rfl
theorem q_1_165 : Cond.instanceMethod y_FM_total ∈ fm_T := fm_inT (List.mem_append_right _ (List.mem_append_left _ (List.mem_of_getElem? (i := 165) rfl))) rfl
theorem q_1_166 : Cond.selects R_FM y_FM_total y_FM_total ∈ fm_T := fm_inT (List.mem_append_right _ (List.mem_append_left _ (List.mem_of_getElem? (i := 166) rfl))) rfl
theorem q_1_167 : Cond.code y_FM_total prog_1_method_15_code 1 (some .long) ∈ fm_T := fm_inT (List.mem_append_right _ (List.mem_append_left _ (List.mem_of_getElem? (i := 167) rfl))) rfl
theorem q_1_168 : Cond.methodLink R_FM 190 y_LI_width ∈ fm_T := fm_inT (List.mem_append_right _ (List.mem_append_left _ (List.mem_of_getElem? (i := 168) rfl))) rfl
theorem q_1_169 : Cond.instanceMethod y_LI_width ∈ fm_T := fm_inT (List.mem_append_right _ (List.mem_append_left _ (List.mem_of_getElem? (i := 169) rfl))) rfl
theorem q_1_170 : Cond.selects R_LI y_LI_width y_LI_width ∈ fm_T := fm_inT (List.mem_append_right _ (List.mem_append_left _ (List.mem_of_getElem? (i := 170) rfl))) rfl
theorem q_1_171 : Cond.code y_LI_width prog_5_method_13_code 5 (some .long) ∈ fm_T := fm_inT (List.mem_append_right _ (List.mem_append_left _ (List.mem_of_getElem? (i := 171) rfl))) rfl
theorem q_1_172 : Cond.methodLink R_LI 77 y_LI_kernAt ∈ fm_T := fm_inT (List.mem_append_right _ (List.mem_append_left _ (List.mem_of_getElem? (i := 172) rfl))) rfl
theorem q_1_173 : Cond.instanceMethod y_LI_kernAt ∈ fm_T := fm_inT (List.mem_append_right _ (List.mem_append_left _ (List.mem_of_getElem? (i := 173) rfl))) rfl
theorem q_1_174 : Cond.selects R_LI y_LI_kernAt y_LI_kernAt ∈ fm_T := fm_inT (List.mem_append_right _ (List.mem_append_left _ (List.mem_of_getElem? (i := 174) rfl))) rfl
theorem q_1_175 : Cond.code y_LI_kernAt prog_5_method_11_code 2 (some .boolean) ∈ fm_T := fm_inT (List.mem_append_right _ (List.mem_append_left _ (List.mem_of_getElem? (i := 175) rfl))) rfl
theorem q_1_176 : Cond.methodLink R_LI 81 y_LI_valueAt ∈ fm_T := fm_inT (List.mem_append_right _ (List.mem_append_left _ (List.mem_of_getElem? (i := 176) rfl))) rfl
theorem q_1_177 : Cond.instanceMethod y_LI_valueAt ∈ fm_T := fm_inT (List.mem_append_right _ (List.mem_append_left _ (List.mem_of_getElem? (i := 177) rfl))) rfl
theorem q_1_178 : Cond.selects R_LI y_LI_valueAt y_LI_valueAt ∈ fm_T := fm_inT (List.mem_append_right _ (List.mem_append_left _ (List.mem_of_getElem? (i := 178) rfl))) rfl
theorem q_1_179 : Cond.code y_LI_valueAt prog_5_method_12_code 2 (some .int) ∈ fm_T := fm_inT (List.mem_append_right _ (List.mem_append_left _ (List.mem_of_getElem? (i := 179) rfl))) rfl
theorem q_1_180 : Cond.methodLink R_LI 84 y_FO_width ∈ fm_T := fm_inT (List.mem_append_right _ (List.mem_append_left _ (List.mem_of_getElem? (i := 180) rfl))) rfl
theorem q_1_181 : Cond.instanceMethod y_FO_width ∈ fm_T := fm_inT (List.mem_append_right _ (List.mem_append_left _ (List.mem_of_getElem? (i := 181) rfl))) rfl
theorem q_1_182 : Cond.selects R_FO y_FO_width y_FO_width ∈ fm_T := fm_inT (List.mem_append_right _ (List.mem_append_left _ (List.mem_of_getElem? (i := 182) rfl))) rfl
theorem q_1_183 : Cond.code y_FO_width prog_4_method_12_code 2 (some .int) ∈ fm_T := fm_inT (List.mem_append_right _ (List.mem_append_left _ (List.mem_of_getElem? (i := 183) rfl))) rfl
theorem q_1_184 : Cond.methodLink R_FO 73 y_FO_scaled ∈ fm_T := fm_inT (List.mem_append_right _ (List.mem_append_left _ (List.mem_of_getElem? (i := 184) rfl))) rfl
theorem q_1_185 : Cond.instanceMethod y_FO_scaled ∈ fm_T := fm_inT (List.mem_append_right _ (List.mem_append_left _ (List.mem_of_getElem? (i := 185) rfl))) rfl
theorem q_1_186 : Cond.selects R_FO y_FO_scaled y_FO_scaled ∈ fm_T := fm_inT (List.mem_append_right _ (List.mem_append_left _ (List.mem_of_getElem? (i := 186) rfl))) rfl
theorem q_1_187 : Cond.code y_FO_scaled prog_4_method_9_code 6 (some .int) ∈ fm_T := fm_inT (List.mem_append_right _ (List.mem_append_left _ (List.mem_of_getElem? (i := 187) rfl))) rfl
theorem q_1_188 : Cond.constant R_FO 63 16777215 ∈ fm_T := fm_inT (List.mem_append_right _ (List.mem_append_left _ (List.mem_of_getElem? (i := 188) rfl))) rfl
theorem q_1_189 : Cond.methodLink R_FO 64 y_FO_byteOf ∈ fm_T := fm_inT (List.mem_append_right _ (List.mem_append_left _ (List.mem_of_getElem? (i := 189) rfl))) rfl
theorem q_1_190 : Cond.static y_FO_byteOf ∈ fm_T := fm_inT (List.mem_append_right _ (List.mem_append_left _ (List.mem_of_getElem? (i := 190) rfl))) rfl
theorem q_1_191 : Cond.code y_FO_byteOf prog_4_method_22_code 2 (some .int) ∈ fm_T := fm_inT (List.mem_append_right _ (List.mem_append_left _ (List.mem_of_getElem? (i := 191) rfl))) rfl
theorem q_1_192 : Cond.methodLink R_LW 61 y_LW_load ∈ fm_T := fm_inT (List.mem_append_right _ (List.mem_append_left _ (List.mem_of_getElem? (i := 192) rfl))) rfl
theorem q_1_193 : Cond.static y_LW_load ∈ fm_T := fm_inT (List.mem_append_right _ (List.mem_append_left _ (List.mem_of_getElem? (i := 193) rfl))) rfl
theorem q_1_194 : Cond.codeWith y_LW_load method_3_code 4 (some .int) [(0, 9, 12, 13)] ∈ fm_T := fm_inT (List.mem_append_right _ (List.mem_append_left _ (List.mem_of_getElem? (i := 194) rfl))) rfl
theorem q_1_195 : Cond.classLink R_LW 13 "java/lang/IllegalArgumentException" ∈ fm_T := fm_inT (List.mem_append_right _ (List.mem_append_left _ (List.mem_of_getElem? (i := 195) rfl))) rfl
theorem q_1_196 : Cond.methodLink R_LW 7 y_FM_load ∈ fm_T := fm_inT (List.mem_append_right _ (List.mem_append_left _ (List.mem_of_getElem? (i := 196) rfl))) rfl
theorem q_1_197 : Cond.instanceMethod y_FM_load ∈ fm_T := fm_inT (List.mem_append_right _ (List.mem_append_left _ (List.mem_of_getElem? (i := 197) rfl))) rfl
theorem q_1_198 : Cond.selects R_FM y_FM_load y_FM_load ∈ fm_T := fm_inT (List.mem_append_right _ (List.mem_append_left _ (List.mem_of_getElem? (i := 198) rfl))) rfl
theorem q_1_199 : Cond.code y_FM_load prog_1_method_4_code 4 (some .int) ∈ fm_T := fm_inT (List.mem_append_right _ (List.mem_append_left _ (List.mem_of_getElem? (i := 199) rfl))) rfl
theorem q_1_200 : Cond.constant R_FM 53 134217727 ∈ fm_T := fm_inT (List.mem_append_right _ (List.mem_append_left _ (List.mem_of_getElem? (i := 200) rfl))) rfl
theorem q_1_201 : Cond.classLink R_FM 54 "java/lang/IllegalArgumentException" ∈ fm_T := fm_inT (List.mem_append_right _ (List.mem_append_left _ (List.mem_of_getElem? (i := 201) rfl))) rfl
theorem q_1_202 : Cond.instantiable "java/lang/IllegalArgumentException" 6 ∈ fm_T := fm_inT (List.mem_append_right _ (List.mem_append_left _ (List.mem_of_getElem? (i := 202) rfl))) rfl
theorem q_1_210 : Cond.selects "java/lang/IllegalArgumentException" (⟨"java/lang/Throwable", "fillInStackTrace", "(I)Ljava/lang/Throwable;"⟩ : MethodName) (⟨"java/lang/Throwable", "fillInStackTrace", "(I)Ljava/lang/Throwable;"⟩ : MethodName) ∈ fm_T := fm_inT (List.mem_append_right _ (List.mem_append_left _ (List.mem_of_getElem? (i := 210) rfl))) rfl
theorem q_1_211 : Cond.selects "java/lang/IllegalArgumentException" (⟨"java/lang/Throwable", "fillInStackTrace", "()Ljava/lang/Throwable;"⟩ : MethodName) (⟨"java/lang/Throwable", "fillInStackTrace", "()Ljava/lang/Throwable;"⟩ : MethodName) ∈ fm_T := fm_inT (List.mem_append_right _ (List.mem_append_left _ (List.mem_of_getElem? (i := 211) rfl))) rfl
theorem q_1_212 : Cond.lays "java/lang/IllegalArgumentException" "java/lang/Throwable" "cause" "Ljava/lang/Throwable;" ∈ fm_T := fm_inT (List.mem_append_right _ (List.mem_append_left _ (List.mem_of_getElem? (i := 212) rfl))) rfl
theorem q_1_213 : Cond.lays "java/lang/Throwable" "java/lang/Throwable" "cause" "Ljava/lang/Throwable;" ∈ fm_T := fm_inT (List.mem_append_right _ (List.mem_append_left _ (List.mem_of_getElem? (i := 213) rfl))) rfl
theorem q_1_214 : Cond.lays "java/lang/IllegalArgumentException" "java/lang/Throwable" "stackTrace" "[Ljava/lang/StackTraceElement;" ∈ fm_T := fm_inT (List.mem_append_right _ (List.mem_append_left _ (List.mem_of_getElem? (i := 214) rfl))) rfl
theorem q_1_215 : Cond.lays "java/lang/Throwable" "java/lang/Throwable" "stackTrace" "[Ljava/lang/StackTraceElement;" ∈ fm_T := fm_inT (List.mem_append_right _ (List.mem_append_left _ (List.mem_of_getElem? (i := 215) rfl))) rfl
theorem q_1_216 : Cond.lays "java/lang/IllegalArgumentException" "java/lang/Throwable" "suppressedExceptions" "Ljava/util/List;" ∈ fm_T := fm_inT (List.mem_append_right _ (List.mem_append_left _ (List.mem_of_getElem? (i := 216) rfl))) rfl
theorem q_1_217 : Cond.lays "java/lang/Throwable" "java/lang/Throwable" "suppressedExceptions" "Ljava/util/List;" ∈ fm_T := fm_inT (List.mem_append_right _ (List.mem_append_left _ (List.mem_of_getElem? (i := 217) rfl))) rfl
theorem q_1_218 : Cond.lays "java/lang/IllegalArgumentException" "java/lang/Throwable" "detailMessage" "Ljava/lang/String;" ∈ fm_T := fm_inT (List.mem_append_right _ (List.mem_append_left _ (List.mem_of_getElem? (i := 218) rfl))) rfl
theorem q_1_219 : Cond.lays "java/lang/Throwable" "java/lang/Throwable" "detailMessage" "Ljava/lang/String;" ∈ fm_T := fm_inT (List.mem_append_right _ (List.mem_append_left _ (List.mem_of_getElem? (i := 219) rfl))) rfl
theorem q_1_220 : Cond.lays "java/lang/IllegalArgumentException" "java/lang/Throwable" "backtrace" "Ljava/lang/Object;" ∈ fm_T := fm_inT (List.mem_append_right _ (List.mem_append_left _ (List.mem_of_getElem? (i := 220) rfl))) rfl
theorem q_1_221 : Cond.lays "java/lang/Throwable" "java/lang/Throwable" "backtrace" "Ljava/lang/Object;" ∈ fm_T := fm_inT (List.mem_append_right _ (List.mem_append_left _ (List.mem_of_getElem? (i := 221) rfl))) rfl
theorem q_1_222 : Cond.fieldLink "java/lang/Throwable" 198 "java/lang/Throwable" "backtrace" "Ljava/lang/Object;" ∈ fm_T := fm_inT (List.mem_append_right _ (List.mem_append_left _ (List.mem_of_getElem? (i := 222) rfl))) rfl
theorem q_1_224 : Cond.instanceMethod (⟨"java/lang/Throwable", "<init>", "()V"⟩ : MethodName) ∈ fm_T := fm_inT (List.mem_append_right _ (List.mem_append_left _ (List.mem_of_getElem? (i := 224) rfl))) rfl
theorem q_1_225 : Cond.code (⟨"java/lang/Throwable", "<init>", "()V"⟩ : MethodName) prog_16_method_1_code 1 none ∈ fm_T := fm_inT (List.mem_append_right _ (List.mem_append_left _ (List.mem_of_getElem? (i := 225) rfl))) rfl
theorem q_1_226 : Cond.methodLink "java/lang/Throwable" 1 (⟨"java/lang/Object", "<init>", "()V"⟩ : MethodName) ∈ fm_T := fm_inT (List.mem_append_right _ (List.mem_append_left _ (List.mem_of_getElem? (i := 226) rfl))) rfl
theorem q_1_227 : Cond.fieldLink "java/lang/Throwable" 13 "java/lang/Throwable" "UNASSIGNED_STACK" "[Ljava/lang/StackTraceElement;" ∈ fm_T := fm_inT (List.mem_append_right _ (List.mem_append_left _ (List.mem_of_getElem? (i := 227) rfl))) rfl
theorem q_1_229 : Cond.fieldLink "java/lang/Throwable" 20 "java/lang/Throwable" "SUPPRESSED_SENTINEL" "Ljava/util/List;" ∈ fm_T := fm_inT (List.mem_append_right _ (List.mem_append_left _ (List.mem_of_getElem? (i := 229) rfl))) rfl
theorem q_1_231 : Cond.methodLink "java/lang/Throwable" 27 (⟨"java/lang/Throwable", "fillInStackTrace", "()Ljava/lang/Throwable;"⟩ : MethodName) ∈ fm_T := fm_inT (List.mem_append_right _ (List.mem_append_left _ (List.mem_of_getElem? (i := 231) rfl))) rfl
theorem q_1_232 : Cond.instanceMethod (⟨"java/lang/Throwable", "fillInStackTrace", "()Ljava/lang/Throwable;"⟩ : MethodName) ∈ fm_T := fm_inT (List.mem_append_right _ (List.mem_append_left _ (List.mem_of_getElem? (i := 232) rfl))) rfl
theorem q_1_234 : Cond.selects "java/lang/IllegalStateException" (⟨"java/lang/Throwable", "fillInStackTrace", "()Ljava/lang/Throwable;"⟩ : MethodName) (⟨"java/lang/Throwable", "fillInStackTrace", "()Ljava/lang/Throwable;"⟩ : MethodName) ∈ fm_T := fm_inT (List.mem_append_right _ (List.mem_append_left _ (List.mem_of_getElem? (i := 234) rfl))) rfl
theorem q_1_235 : Cond.selects "java/lang/IndexOutOfBoundsException" (⟨"java/lang/Throwable", "fillInStackTrace", "()Ljava/lang/Throwable;"⟩ : MethodName) (⟨"java/lang/Throwable", "fillInStackTrace", "()Ljava/lang/Throwable;"⟩ : MethodName) ∈ fm_T := fm_inT (List.mem_append_right _ (List.mem_append_left _ (List.mem_of_getElem? (i := 235) rfl))) rfl
theorem q_1_237 : Cond.methodLink "java/lang/Throwable" 202 (⟨"java/lang/Throwable", "fillInStackTrace", "(I)Ljava/lang/Throwable;"⟩ : MethodName) ∈ fm_T := fm_inT (List.mem_append_right _ (List.mem_append_left _ (List.mem_of_getElem? (i := 237) rfl))) rfl
theorem q_1_239 : Cond.instanceMethod (⟨"java/lang/Throwable", "fillInStackTrace", "(I)Ljava/lang/Throwable;"⟩ : MethodName) ∈ fm_T := fm_inT (List.mem_append_right _ (List.mem_append_left _ (List.mem_of_getElem? (i := 239) rfl))) rfl
theorem q_2_0 : Cond.instantiable "java/lang/Throwable" 6 ∈ fm_T := fm_inT (List.mem_append_right _ (List.mem_append_right _ (List.mem_append_left _ (List.mem_of_getElem? (i := 0) rfl)))) rfl
theorem q_2_3 : Cond.methodLink R_FM 58 (⟨"java/lang/IllegalArgumentException", "<init>", "(Ljava/lang/String;)V"⟩ : MethodName) ∈ fm_T := fm_inT (List.mem_append_right _ (List.mem_append_right _ (List.mem_append_left _ (List.mem_of_getElem? (i := 3) rfl)))) rfl
theorem q_2_4 : Cond.instanceMethod (⟨"java/lang/IllegalArgumentException", "<init>", "(Ljava/lang/String;)V"⟩ : MethodName) ∈ fm_T := fm_inT (List.mem_append_right _ (List.mem_append_right _ (List.mem_append_left _ (List.mem_of_getElem? (i := 4) rfl)))) rfl
theorem q_2_5 : Cond.code (⟨"java/lang/IllegalArgumentException", "<init>", "(Ljava/lang/String;)V"⟩ : MethodName) prog_9_method_2_code 2 none ∈ fm_T := fm_inT (List.mem_append_right _ (List.mem_append_right _ (List.mem_append_left _ (List.mem_of_getElem? (i := 5) rfl)))) rfl
theorem q_2_6 : Cond.methodLink "java/lang/IllegalArgumentException" 7 (⟨"java/lang/RuntimeException", "<init>", "(Ljava/lang/String;)V"⟩ : MethodName) ∈ fm_T := fm_inT (List.mem_append_right _ (List.mem_append_right _ (List.mem_append_left _ (List.mem_of_getElem? (i := 6) rfl)))) rfl
theorem q_2_7 : Cond.instanceMethod (⟨"java/lang/RuntimeException", "<init>", "(Ljava/lang/String;)V"⟩ : MethodName) ∈ fm_T := fm_inT (List.mem_append_right _ (List.mem_append_right _ (List.mem_append_left _ (List.mem_of_getElem? (i := 7) rfl)))) rfl
theorem q_2_8 : Cond.code (⟨"java/lang/RuntimeException", "<init>", "(Ljava/lang/String;)V"⟩ : MethodName) prog_13_method_2_code 2 none ∈ fm_T := fm_inT (List.mem_append_right _ (List.mem_append_right _ (List.mem_append_left _ (List.mem_of_getElem? (i := 8) rfl)))) rfl
theorem q_2_9 : Cond.methodLink "java/lang/RuntimeException" 7 (⟨"java/lang/Exception", "<init>", "(Ljava/lang/String;)V"⟩ : MethodName) ∈ fm_T := fm_inT (List.mem_append_right _ (List.mem_append_right _ (List.mem_append_left _ (List.mem_of_getElem? (i := 9) rfl)))) rfl
theorem q_2_10 : Cond.instanceMethod (⟨"java/lang/Exception", "<init>", "(Ljava/lang/String;)V"⟩ : MethodName) ∈ fm_T := fm_inT (List.mem_append_right _ (List.mem_append_right _ (List.mem_append_left _ (List.mem_of_getElem? (i := 10) rfl)))) rfl
theorem q_2_11 : Cond.code (⟨"java/lang/Exception", "<init>", "(Ljava/lang/String;)V"⟩ : MethodName) prog_8_method_2_code 2 none ∈ fm_T := fm_inT (List.mem_append_right _ (List.mem_append_right _ (List.mem_append_left _ (List.mem_of_getElem? (i := 11) rfl)))) rfl
theorem q_2_12 : Cond.methodLink "java/lang/Exception" 7 (⟨"java/lang/Throwable", "<init>", "(Ljava/lang/String;)V"⟩ : MethodName) ∈ fm_T := fm_inT (List.mem_append_right _ (List.mem_append_right _ (List.mem_append_left _ (List.mem_of_getElem? (i := 12) rfl)))) rfl
theorem q_2_13 : Cond.instanceMethod (⟨"java/lang/Throwable", "<init>", "(Ljava/lang/String;)V"⟩ : MethodName) ∈ fm_T := fm_inT (List.mem_append_right _ (List.mem_append_right _ (List.mem_append_left _ (List.mem_of_getElem? (i := 13) rfl)))) rfl
theorem q_2_14 : Cond.code (⟨"java/lang/Throwable", "<init>", "(Ljava/lang/String;)V"⟩ : MethodName) prog_16_method_2_code 2 none ∈ fm_T := fm_inT (List.mem_append_right _ (List.mem_append_right _ (List.mem_append_left _ (List.mem_of_getElem? (i := 14) rfl)))) rfl
theorem q_2_16 : Cond.fieldLink "java/lang/Throwable" 31 "java/lang/Throwable" "detailMessage" "Ljava/lang/String;" ∈ fm_T := fm_inT (List.mem_append_right _ (List.mem_append_right _ (List.mem_append_left _ (List.mem_of_getElem? (i := 16) rfl)))) rfl
theorem q_2_17 : Cond.fieldLink "java/lang/Throwable" 7 "java/lang/Throwable" "cause" "Ljava/lang/Throwable;" ∈ fm_T := fm_inT (List.mem_append_right _ (List.mem_append_right _ (List.mem_append_left _ (List.mem_of_getElem? (i := 17) rfl)))) rfl
theorem q_2_18 : Cond.fieldLink "java/lang/Throwable" 17 "java/lang/Throwable" "stackTrace" "[Ljava/lang/StackTraceElement;" ∈ fm_T := fm_inT (List.mem_append_right _ (List.mem_append_right _ (List.mem_append_left _ (List.mem_of_getElem? (i := 18) rfl)))) rfl
theorem q_2_19 : Cond.fieldLink "java/lang/Throwable" 24 "java/lang/Throwable" "suppressedExceptions" "Ljava/util/List;" ∈ fm_T := fm_inT (List.mem_append_right _ (List.mem_append_right _ (List.mem_append_left _ (List.mem_of_getElem? (i := 19) rfl)))) rfl
theorem q_2_24 : Cond.lays "java/lang/IllegalArgumentException" "java/lang/Throwable" "depth" "I" ∈ fm_T := fm_inT (List.mem_append_right _ (List.mem_append_right _ (List.mem_append_left _ (List.mem_of_getElem? (i := 24) rfl)))) rfl
theorem q_2_28 : Cond.arrayClass FieldType.byte ∈ fm_T := fm_inT (List.mem_append_right _ (List.mem_append_right _ (List.mem_append_left _ (List.mem_of_getElem? (i := 28) rfl)))) rfl
theorem q_2_29 : Cond.methodLink R_FM 64 y_FO_take ∈ fm_T := fm_inT (List.mem_append_right _ (List.mem_append_right _ (List.mem_append_left _ (List.mem_of_getElem? (i := 29) rfl)))) rfl
theorem q_2_30 : Cond.instanceMethod y_FO_take ∈ fm_T := fm_inT (List.mem_append_right _ (List.mem_append_right _ (List.mem_append_left _ (List.mem_of_getElem? (i := 30) rfl)))) rfl
theorem q_2_31 : Cond.selects R_FO y_FO_take y_FO_take ∈ fm_T := fm_inT (List.mem_append_right _ (List.mem_append_right _ (List.mem_append_left _ (List.mem_of_getElem? (i := 31) rfl)))) rfl
theorem q_2_32 : Cond.code y_FO_take prog_4_method_2_code 4 none ∈ fm_T := fm_inT (List.mem_append_right _ (List.mem_append_right _ (List.mem_append_left _ (List.mem_of_getElem? (i := 32) rfl)))) rfl
theorem q_2_33 : Cond.methodLink R_FO 23 (⟨"java/lang/Math", "min", "(II)I"⟩ : MethodName) ∈ fm_T := fm_inT (List.mem_append_right _ (List.mem_append_right _ (List.mem_append_left _ (List.mem_of_getElem? (i := 33) rfl)))) rfl
theorem q_2_34 : Cond.static (⟨"java/lang/Math", "min", "(II)I"⟩ : MethodName) ∈ fm_T := fm_inT (List.mem_append_right _ (List.mem_append_right _ (List.mem_append_left _ (List.mem_of_getElem? (i := 34) rfl)))) rfl
theorem q_2_35 : Cond.code (⟨"java/lang/Math", "min", "(II)I"⟩ : MethodName) prog_12_method_69_code 2 (some .int) ∈ fm_T := fm_inT (List.mem_append_right _ (List.mem_append_right _ (List.mem_append_left _ (List.mem_of_getElem? (i := 35) rfl)))) rfl
theorem q_2_36 : Cond.methodLink R_FO 29 (⟨"java/lang/System", "arraycopy", "(Ljava/lang/Object;ILjava/lang/Object;II)V"⟩ : MethodName) ∈ fm_T := fm_inT (List.mem_append_right _ (List.mem_append_right _ (List.mem_append_left _ (List.mem_of_getElem? (i := 36) rfl)))) rfl
theorem q_2_37 : Cond.static (⟨"java/lang/System", "arraycopy", "(Ljava/lang/Object;ILjava/lang/Object;II)V"⟩ : MethodName) ∈ fm_T := fm_inT (List.mem_append_right _ (List.mem_append_right _ (List.mem_append_left _ (List.mem_of_getElem? (i := 37) rfl)))) rfl
theorem q_2_39 : Cond.methodLink R_FO 35 y_FO_number ∈ fm_T := fm_inT (List.mem_append_right _ (List.mem_append_right _ (List.mem_append_left _ (List.mem_of_getElem? (i := 39) rfl)))) rfl
theorem q_2_40 : Cond.instanceMethod y_FO_number ∈ fm_T := fm_inT (List.mem_append_right _ (List.mem_append_right _ (List.mem_append_left _ (List.mem_of_getElem? (i := 40) rfl)))) rfl
theorem q_2_41 : Cond.selects R_FO y_FO_number y_FO_number ∈ fm_T := fm_inT (List.mem_append_right _ (List.mem_append_right _ (List.mem_append_left _ (List.mem_of_getElem? (i := 41) rfl)))) rfl
theorem q_2_42 : Cond.code y_FO_number prog_4_method_5_code 4 (some .int) ∈ fm_T := fm_inT (List.mem_append_right _ (List.mem_append_right _ (List.mem_append_left _ (List.mem_of_getElem? (i := 42) rfl)))) rfl
theorem q_2_43 : Cond.constant R_FO 59 65535 ∈ fm_T := fm_inT (List.mem_append_right _ (List.mem_append_right _ (List.mem_append_left _ (List.mem_of_getElem? (i := 43) rfl)))) rfl
theorem q_2_44 : Cond.methodLink R_FO 46 y_FO_lengthByNumbers ∈ fm_T := fm_inT (List.mem_append_right _ (List.mem_append_right _ (List.mem_append_left _ (List.mem_of_getElem? (i := 44) rfl)))) rfl
theorem q_2_46 : Cond.instanceMethod y_FO_lengthByNumbers ∈ fm_T := fm_inT (List.mem_append_right _ (List.mem_append_right _ (List.mem_append_left _ (List.mem_of_getElem? (i := 46) rfl)))) rfl
theorem q_2_47 : Cond.code y_FO_lengthByNumbers prog_4_method_3_code 2 (some .int) ∈ fm_T := fm_inT (List.mem_append_right _ (List.mem_append_right _ (List.mem_append_left _ (List.mem_of_getElem? (i := 47) rfl)))) rfl
theorem q_2_48 : Cond.methodLink R_FM 71 y_FA_firstOfNumbers ∈ fm_T := fm_inT (List.mem_append_right _ (List.mem_append_right _ (List.mem_append_left _ (List.mem_of_getElem? (i := 48) rfl)))) rfl
theorem q_2_49 : Cond.static y_FA_firstOfNumbers ∈ fm_T := fm_inT (List.mem_append_right _ (List.mem_append_right _ (List.mem_append_left _ (List.mem_of_getElem? (i := 49) rfl)))) rfl
theorem q_2_50 : Cond.code y_FA_firstOfNumbers prog_3_method_2_code 2 (some .int) ∈ fm_T := fm_inT (List.mem_append_right _ (List.mem_append_right _ (List.mem_append_left _ (List.mem_of_getElem? (i := 50) rfl)))) rfl
theorem q_2_51 : Cond.methodLink R_FA 9 y_FA_numbersAreSmall ∈ fm_T := fm_inT (List.mem_append_right _ (List.mem_append_right _ (List.mem_append_left _ (List.mem_of_getElem? (i := 51) rfl)))) rfl
theorem q_2_52 : Cond.static y_FA_numbersAreSmall ∈ fm_T := fm_inT (List.mem_append_right _ (List.mem_append_right _ (List.mem_append_left _ (List.mem_of_getElem? (i := 52) rfl)))) rfl
theorem q_2_53 : Cond.code y_FA_numbersAreSmall prog_3_method_4_code 2 (some .boolean) ∈ fm_T := fm_inT (List.mem_append_right _ (List.mem_append_right _ (List.mem_append_left _ (List.mem_of_getElem? (i := 53) rfl)))) rfl
theorem q_2_54 : Cond.methodLink R_FA 53 y_FO_number ∈ fm_T := fm_inT (List.mem_append_right _ (List.mem_append_right _ (List.mem_append_left _ (List.mem_of_getElem? (i := 54) rfl)))) rfl
theorem q_2_55 : Cond.methodLink R_FA 22 y_FA_partsAreEnough ∈ fm_T := fm_inT (List.mem_append_right _ (List.mem_append_right _ (List.mem_append_left _ (List.mem_of_getElem? (i := 55) rfl)))) rfl
theorem q_2_56 : Cond.static y_FA_partsAreEnough ∈ fm_T := fm_inT (List.mem_append_right _ (List.mem_append_right _ (List.mem_append_left _ (List.mem_of_getElem? (i := 56) rfl)))) rfl
theorem q_2_57 : Cond.code y_FA_partsAreEnough prog_3_method_5_code 1 (some .boolean) ∈ fm_T := fm_inT (List.mem_append_right _ (List.mem_append_right _ (List.mem_append_left _ (List.mem_of_getElem? (i := 57) rfl)))) rfl
theorem q_2_58 : Cond.methodLink R_FA 57 y_FO_lengthOf ∈ fm_T := fm_inT (List.mem_append_right _ (List.mem_append_right _ (List.mem_append_left _ (List.mem_of_getElem? (i := 58) rfl)))) rfl
theorem q_2_59 : Cond.instanceMethod y_FO_lengthOf ∈ fm_T := fm_inT (List.mem_append_right _ (List.mem_append_right _ (List.mem_append_left _ (List.mem_of_getElem? (i := 59) rfl)))) rfl
theorem q_2_60 : Cond.selects R_FO y_FO_lengthOf y_FO_lengthOf ∈ fm_T := fm_inT (List.mem_append_right _ (List.mem_append_right _ (List.mem_append_left _ (List.mem_of_getElem? (i := 60) rfl)))) rfl
theorem q_2_61 : Cond.code y_FO_lengthOf prog_4_method_6_code 2 (some .int) ∈ fm_T := fm_inT (List.mem_append_right _ (List.mem_append_right _ (List.mem_append_left _ (List.mem_of_getElem? (i := 61) rfl)))) rfl
theorem q_2_62 : Cond.methodLink R_FA 25 y_FA_lengthsAgree ∈ fm_T := fm_inT (List.mem_append_right _ (List.mem_append_right _ (List.mem_append_left _ (List.mem_of_getElem? (i := 62) rfl)))) rfl
theorem q_2_63 : Cond.static y_FA_lengthsAgree ∈ fm_T := fm_inT (List.mem_append_right _ (List.mem_append_right _ (List.mem_append_left _ (List.mem_of_getElem? (i := 63) rfl)))) rfl
theorem q_2_64 : Cond.code y_FA_lengthsAgree prog_3_method_6_code 5 (some .boolean) ∈ fm_T := fm_inT (List.mem_append_right _ (List.mem_append_right _ (List.mem_append_left _ (List.mem_of_getElem? (i := 64) rfl)))) rfl
theorem q_2_65 : Cond.methodLink R_FM 77 y_FA_firstOfParts ∈ fm_T := fm_inT (List.mem_append_right _ (List.mem_append_right _ (List.mem_append_left _ (List.mem_of_getElem? (i := 65) rfl)))) rfl
theorem q_2_66 : Cond.static y_FA_firstOfParts ∈ fm_T := fm_inT (List.mem_append_right _ (List.mem_append_right _ (List.mem_append_left _ (List.mem_of_getElem? (i := 66) rfl)))) rfl
theorem q_2_67 : Cond.code y_FA_firstOfParts prog_3_method_3_code 1 (some .int) ∈ fm_T := fm_inT (List.mem_append_right _ (List.mem_append_right _ (List.mem_append_left _ (List.mem_of_getElem? (i := 67) rfl)))) rfl
theorem q_2_68 : Cond.methodLink R_FA 29 y_FO_word ∈ fm_T := fm_inT (List.mem_append_right _ (List.mem_append_right _ (List.mem_append_left _ (List.mem_of_getElem? (i := 68) rfl)))) rfl
theorem q_2_69 : Cond.constant R_FA 33 1048576 ∈ fm_T := fm_inT (List.mem_append_right _ (List.mem_append_right _ (List.mem_append_left _ (List.mem_of_getElem? (i := 69) rfl)))) rfl
theorem q_2_70 : Cond.methodLink R_FA 34 y_FA_measuresHavePlaces ∈ fm_T := fm_inT (List.mem_append_right _ (List.mem_append_right _ (List.mem_append_left _ (List.mem_of_getElem? (i := 70) rfl)))) rfl
theorem q_2_71 : Cond.static y_FA_measuresHavePlaces ∈ fm_T := fm_inT (List.mem_append_right _ (List.mem_append_right _ (List.mem_append_left _ (List.mem_of_getElem? (i := 71) rfl)))) rfl
theorem q_2_72 : Cond.code y_FA_measuresHavePlaces prog_3_method_7_code 3 (some .boolean) ∈ fm_T := fm_inT (List.mem_append_right _ (List.mem_append_right _ (List.mem_append_left _ (List.mem_of_getElem? (i := 72) rfl)))) rfl
theorem q_2_73 : Cond.methodLink R_FA 60 y_FO_widthPlace ∈ fm_T := fm_inT (List.mem_append_right _ (List.mem_append_right _ (List.mem_append_left _ (List.mem_of_getElem? (i := 73) rfl)))) rfl
theorem q_2_74 : Cond.methodLink R_FA 63 y_FO_heightPlace ∈ fm_T := fm_inT (List.mem_append_right _ (List.mem_append_right _ (List.mem_append_left _ (List.mem_of_getElem? (i := 74) rfl)))) rfl
theorem q_2_75 : Cond.static y_FO_heightPlace ∈ fm_T := fm_inT (List.mem_append_right _ (List.mem_append_right _ (List.mem_append_left _ (List.mem_of_getElem? (i := 75) rfl)))) rfl
theorem q_2_76 : Cond.code y_FO_heightPlace prog_4_method_26_code 1 (some .int) ∈ fm_T := fm_inT (List.mem_append_right _ (List.mem_append_right _ (List.mem_append_left _ (List.mem_of_getElem? (i := 76) rfl)))) rfl
theorem q_2_77 : Cond.methodLink R_FA 66 y_FO_depthPlace ∈ fm_T := fm_inT (List.mem_append_right _ (List.mem_append_right _ (List.mem_append_left _ (List.mem_of_getElem? (i := 77) rfl)))) rfl
theorem q_2_78 : Cond.static y_FO_depthPlace ∈ fm_T := fm_inT (List.mem_append_right _ (List.mem_append_right _ (List.mem_append_left _ (List.mem_of_getElem? (i := 78) rfl)))) rfl
theorem q_2_79 : Cond.code y_FO_depthPlace prog_4_method_27_code 1 (some .int) ∈ fm_T := fm_inT (List.mem_append_right _ (List.mem_append_right _ (List.mem_append_left _ (List.mem_of_getElem? (i := 79) rfl)))) rfl
theorem q_2_80 : Cond.methodLink R_FA 69 y_FO_italicPlace ∈ fm_T := fm_inT (List.mem_append_right _ (List.mem_append_right _ (List.mem_append_left _ (List.mem_of_getElem? (i := 80) rfl)))) rfl
theorem q_2_81 : Cond.static y_FO_italicPlace ∈ fm_T := fm_inT (List.mem_append_right _ (List.mem_append_right _ (List.mem_append_left _ (List.mem_of_getElem? (i := 81) rfl)))) rfl
theorem q_2_82 : Cond.code y_FO_italicPlace prog_4_method_28_code 1 (some .int) ∈ fm_T := fm_inT (List.mem_append_right _ (List.mem_append_right _ (List.mem_append_left _ (List.mem_of_getElem? (i := 82) rfl)))) rfl
theorem q_2_83 : Cond.methodLink R_FA 37 y_FA_tagsHold ∈ fm_T := fm_inT (List.mem_append_right _ (List.mem_append_right _ (List.mem_append_left _ (List.mem_of_getElem? (i := 83) rfl)))) rfl
theorem q_2_84 : Cond.static y_FA_tagsHold ∈ fm_T := fm_inT (List.mem_append_right _ (List.mem_append_right _ (List.mem_append_left _ (List.mem_of_getElem? (i := 84) rfl)))) rfl
theorem q_2_85 : Cond.code y_FA_tagsHold prog_3_method_8_code 3 (some .boolean) ∈ fm_T := fm_inT (List.mem_append_right _ (List.mem_append_right _ (List.mem_append_left _ (List.mem_of_getElem? (i := 85) rfl)))) rfl
theorem q_2_86 : Cond.methodLink R_FA 72 y_FO_isThere ∈ fm_T := fm_inT (List.mem_append_right _ (List.mem_append_right _ (List.mem_append_left _ (List.mem_of_getElem? (i := 86) rfl)))) rfl
theorem q_2_87 : Cond.methodLink R_FA 76 y_FA_tagHolds ∈ fm_T := fm_inT (List.mem_append_right _ (List.mem_append_right _ (List.mem_append_left _ (List.mem_of_getElem? (i := 87) rfl)))) rfl
theorem q_2_88 : Cond.static y_FA_tagHolds ∈ fm_T := fm_inT (List.mem_append_right _ (List.mem_append_right _ (List.mem_append_left _ (List.mem_of_getElem? (i := 88) rfl)))) rfl
theorem q_2_89 : Cond.code y_FA_tagHolds prog_3_method_9_code 4 (some .boolean) ∈ fm_T := fm_inT (List.mem_append_right _ (List.mem_append_right _ (List.mem_append_left _ (List.mem_of_getElem? (i := 89) rfl)))) rfl
theorem q_2_90 : Cond.methodLink R_FA 79 y_FO_character ∈ fm_T := fm_inT (List.mem_append_right _ (List.mem_append_right _ (List.mem_append_left _ (List.mem_of_getElem? (i := 90) rfl)))) rfl
theorem q_2_91 : Cond.methodLink R_FA 82 y_FO_rest ∈ fm_T := fm_inT (List.mem_append_right _ (List.mem_append_right _ (List.mem_append_left _ (List.mem_of_getElem? (i := 91) rfl)))) rfl
theorem q_2_92 : Cond.static y_FO_rest ∈ fm_T := fm_inT (List.mem_append_right _ (List.mem_append_right _ (List.mem_append_left _ (List.mem_of_getElem? (i := 92) rfl)))) rfl
theorem q_2_93 : Cond.code y_FO_rest prog_4_method_30_code 1 (some .int) ∈ fm_T := fm_inT (List.mem_append_right _ (List.mem_append_right _ (List.mem_append_left _ (List.mem_of_getElem? (i := 93) rfl)))) rfl
theorem q_2_94 : Cond.methodLink R_FA 85 y_FO_tag ∈ fm_T := fm_inT (List.mem_append_right _ (List.mem_append_right _ (List.mem_append_left _ (List.mem_of_getElem? (i := 94) rfl)))) rfl
theorem q_2_95 : Cond.static y_FO_tag ∈ fm_T := fm_inT (List.mem_append_right _ (List.mem_append_right _ (List.mem_append_left _ (List.mem_of_getElem? (i := 95) rfl)))) rfl
theorem q_2_96 : Cond.code y_FO_tag prog_4_method_29_code 1 (some .int) ∈ fm_T := fm_inT (List.mem_append_right _ (List.mem_append_right _ (List.mem_append_left _ (List.mem_of_getElem? (i := 96) rfl)))) rfl
theorem q_2_97 : Cond.methodLink R_FA 88 y_FA_leadsBack ∈ fm_T := fm_inT (List.mem_append_right _ (List.mem_append_right _ (List.mem_append_left _ (List.mem_of_getElem? (i := 97) rfl)))) rfl
theorem q_2_98 : Cond.static y_FA_leadsBack ∈ fm_T := fm_inT (List.mem_append_right _ (List.mem_append_right _ (List.mem_append_left _ (List.mem_of_getElem? (i := 98) rfl)))) rfl
theorem q_2_99 : Cond.code y_FA_leadsBack prog_3_method_10_code 5 (some .boolean) ∈ fm_T := fm_inT (List.mem_append_right _ (List.mem_append_right _ (List.mem_append_left _ (List.mem_of_getElem? (i := 99) rfl)))) rfl
theorem q_2_100 : Cond.methodLink R_FA 40 y_FA_fractionsHold ∈ fm_T := fm_inT (List.mem_append_right _ (List.mem_append_right _ (List.mem_append_left _ (List.mem_of_getElem? (i := 100) rfl)))) rfl
theorem q_2_101 : Cond.static y_FA_fractionsHold ∈ fm_T := fm_inT (List.mem_append_right _ (List.mem_append_right _ (List.mem_append_left _ (List.mem_of_getElem? (i := 101) rfl)))) rfl
theorem q_2_102 : Cond.code y_FA_fractionsHold prog_3_method_11_code 2 (some .boolean) ∈ fm_T := fm_inT (List.mem_append_right _ (List.mem_append_right _ (List.mem_append_left _ (List.mem_of_getElem? (i := 102) rfl)))) rfl
theorem q_2_103 : Cond.methodLink R_FA 49 y_FA_areFractions ∈ fm_T := fm_inT (List.mem_append_right _ (List.mem_append_right _ (List.mem_append_left _ (List.mem_of_getElem? (i := 103) rfl)))) rfl
theorem q_2_104 : Cond.static y_FA_areFractions ∈ fm_T := fm_inT (List.mem_append_right _ (List.mem_append_right _ (List.mem_append_left _ (List.mem_of_getElem? (i := 104) rfl)))) rfl
theorem q_2_105 : Cond.code y_FA_areFractions prog_3_method_12_code 5 (some .boolean) ∈ fm_T := fm_inT (List.mem_append_right _ (List.mem_append_right _ (List.mem_append_left _ (List.mem_of_getElem? (i := 105) rfl)))) rfl
theorem q_2_106 : Cond.methodLink R_FA 91 y_FO_byteOf ∈ fm_T := fm_inT (List.mem_append_right _ (List.mem_append_right _ (List.mem_append_left _ (List.mem_of_getElem? (i := 106) rfl)))) rfl
theorem q_2_107 : Cond.methodLink R_FA 43 y_FA_programHolds ∈ fm_T := fm_inT (List.mem_append_right _ (List.mem_append_right _ (List.mem_append_left _ (List.mem_of_getElem? (i := 107) rfl)))) rfl
theorem q_2_108 : Cond.static y_FA_programHolds ∈ fm_T := fm_inT (List.mem_append_right _ (List.mem_append_right _ (List.mem_append_left _ (List.mem_of_getElem? (i := 108) rfl)))) rfl
theorem q_2_109 : Cond.code y_FA_programHolds prog_3_method_13_code 3 (some .boolean) ∈ fm_T := fm_inT (List.mem_append_right _ (List.mem_append_right _ (List.mem_append_left _ (List.mem_of_getElem? (i := 109) rfl)))) rfl
theorem q_2_110 : Cond.methodLink R_FA 94 y_FA_wayHolds ∈ fm_T := fm_inT (List.mem_append_right _ (List.mem_append_right _ (List.mem_append_left _ (List.mem_of_getElem? (i := 110) rfl)))) rfl
theorem q_2_111 : Cond.static y_FA_wayHolds ∈ fm_T := fm_inT (List.mem_append_right _ (List.mem_append_right _ (List.mem_append_left _ (List.mem_of_getElem? (i := 111) rfl)))) rfl
theorem q_2_112 : Cond.code y_FA_wayHolds prog_3_method_14_code 5 (some .boolean) ∈ fm_T := fm_inT (List.mem_append_right _ (List.mem_append_right _ (List.mem_append_left _ (List.mem_of_getElem? (i := 112) rfl)))) rfl
theorem q_2_113 : Cond.methodLink R_FA 100 y_FO_target ∈ fm_T := fm_inT (List.mem_append_right _ (List.mem_append_right _ (List.mem_append_left _ (List.mem_of_getElem? (i := 113) rfl)))) rfl
theorem q_2_114 : Cond.static y_FO_target ∈ fm_T := fm_inT (List.mem_append_right _ (List.mem_append_right _ (List.mem_append_left _ (List.mem_of_getElem? (i := 114) rfl)))) rfl
theorem q_2_115 : Cond.code y_FO_target prog_4_method_23_code 1 (some .int) ∈ fm_T := fm_inT (List.mem_append_right _ (List.mem_append_right _ (List.mem_append_left _ (List.mem_of_getElem? (i := 115) rfl)))) rfl
theorem q_2_116 : Cond.methodLink R_FA 97 y_FA_sayingHolds ∈ fm_T := fm_inT (List.mem_append_right _ (List.mem_append_right _ (List.mem_append_left _ (List.mem_of_getElem? (i := 116) rfl)))) rfl
theorem q_2_117 : Cond.static y_FA_sayingHolds ∈ fm_T := fm_inT (List.mem_append_right _ (List.mem_append_right _ (List.mem_append_left _ (List.mem_of_getElem? (i := 117) rfl)))) rfl
theorem q_2_118 : Cond.code y_FA_sayingHolds prog_3_method_15_code 4 (some .boolean) ∈ fm_T := fm_inT (List.mem_append_right _ (List.mem_append_right _ (List.mem_append_left _ (List.mem_of_getElem? (i := 118) rfl)))) rfl
theorem q_2_119 : Cond.methodLink R_FA 103 y_FO_edge ∈ fm_T := fm_inT (List.mem_append_right _ (List.mem_append_right _ (List.mem_append_left _ (List.mem_of_getElem? (i := 119) rfl)))) rfl
theorem q_2_120 : Cond.instanceMethod y_FO_edge ∈ fm_T := fm_inT (List.mem_append_right _ (List.mem_append_right _ (List.mem_append_left _ (List.mem_of_getElem? (i := 120) rfl)))) rfl
theorem q_2_121 : Cond.selects R_FO y_FO_edge y_FO_edge ∈ fm_T := fm_inT (List.mem_append_right _ (List.mem_append_right _ (List.mem_append_left _ (List.mem_of_getElem? (i := 121) rfl)))) rfl
theorem q_2_122 : Cond.code y_FO_edge prog_4_method_16_code 2 (some .int) ∈ fm_T := fm_inT (List.mem_append_right _ (List.mem_append_right _ (List.mem_append_left _ (List.mem_of_getElem? (i := 122) rfl)))) rfl
theorem q_2_123 : Cond.methodLink R_FA 107 y_FO_saying ∈ fm_T := fm_inT (List.mem_append_right _ (List.mem_append_right _ (List.mem_append_left _ (List.mem_of_getElem? (i := 123) rfl)))) rfl
theorem q_2_124 : Cond.static y_FO_saying ∈ fm_T := fm_inT (List.mem_append_right _ (List.mem_append_right _ (List.mem_append_left _ (List.mem_of_getElem? (i := 124) rfl)))) rfl
theorem q_2_125 : Cond.code y_FO_saying prog_4_method_24_code 1 (some .int) ∈ fm_T := fm_inT (List.mem_append_right _ (List.mem_append_right _ (List.mem_append_left _ (List.mem_of_getElem? (i := 125) rfl)))) rfl
theorem q_2_126 : Cond.constant R_FA 110 32768 ∈ fm_T := fm_inT (List.mem_append_right _ (List.mem_append_right _ (List.mem_append_left _ (List.mem_of_getElem? (i := 126) rfl)))) rfl
theorem q_2_127 : Cond.methodLink R_FA 46 y_FA_recipesHold ∈ fm_T := fm_inT (List.mem_append_right _ (List.mem_append_right _ (List.mem_append_left _ (List.mem_of_getElem? (i := 127) rfl)))) rfl
theorem q_2_128 : Cond.static y_FA_recipesHold ∈ fm_T := fm_inT (List.mem_append_right _ (List.mem_append_right _ (List.mem_append_left _ (List.mem_of_getElem? (i := 128) rfl)))) rfl
theorem q_2_129 : Cond.code y_FA_recipesHold prog_3_method_16_code 5 (some .boolean) ∈ fm_T := fm_inT (List.mem_append_right _ (List.mem_append_right _ (List.mem_append_left _ (List.mem_of_getElem? (i := 129) rfl)))) rfl
theorem q_2_130 : Cond.methodLink R_FM 81 y_FO_designSize ∈ fm_T := fm_inT (List.mem_append_right _ (List.mem_append_right _ (List.mem_append_left _ (List.mem_of_getElem? (i := 130) rfl)))) rfl
theorem q_2_131 : Cond.instanceMethod y_FO_designSize ∈ fm_T := fm_inT (List.mem_append_right _ (List.mem_append_right _ (List.mem_append_left _ (List.mem_of_getElem? (i := 131) rfl)))) rfl
theorem q_2_132 : Cond.selects R_FO y_FO_designSize y_FO_designSize ∈ fm_T := fm_inT (List.mem_append_right _ (List.mem_append_right _ (List.mem_append_left _ (List.mem_of_getElem? (i := 132) rfl)))) rfl
theorem q_2_133 : Cond.code y_FO_designSize prog_4_method_8_code 1 (some .int) ∈ fm_T := fm_inT (List.mem_append_right _ (List.mem_append_right _ (List.mem_append_left _ (List.mem_of_getElem? (i := 133) rfl)))) rfl
theorem q_2_134 : Cond.methodLink R_FM 85 y_FO_resize ∈ fm_T := fm_inT (List.mem_append_right _ (List.mem_append_right _ (List.mem_append_left _ (List.mem_of_getElem? (i := 134) rfl)))) rfl
theorem q_2_135 : Cond.instanceMethod y_FO_resize ∈ fm_T := fm_inT (List.mem_append_right _ (List.mem_append_right _ (List.mem_append_left _ (List.mem_of_getElem? (i := 135) rfl)))) rfl
theorem q_2_136 : Cond.selects R_FO y_FO_resize y_FO_resize ∈ fm_T := fm_inT (List.mem_append_right _ (List.mem_append_right _ (List.mem_append_left _ (List.mem_of_getElem? (i := 136) rfl)))) rfl
theorem q_2_137 : Cond.code y_FO_resize prog_4_method_4_code 2 none ∈ fm_T := fm_inT (List.mem_append_right _ (List.mem_append_right _ (List.mem_append_left _ (List.mem_of_getElem? (i := 137) rfl)))) rfl
theorem q_2_138 : Cond.constant R_FO 58 8388608 ∈ fm_T := fm_inT (List.mem_append_right _ (List.mem_append_right _ (List.mem_append_left _ (List.mem_of_getElem? (i := 138) rfl)))) rfl
theorem q_2_139 : Cond.methodLink R_FM 89 y_LI_clear ∈ fm_T := fm_inT (List.mem_append_right _ (List.mem_append_right _ (List.mem_append_left _ (List.mem_of_getElem? (i := 139) rfl)))) rfl
theorem q_2_140 : Cond.instanceMethod y_LI_clear ∈ fm_T := fm_inT (List.mem_append_right _ (List.mem_append_right _ (List.mem_append_left _ (List.mem_of_getElem? (i := 140) rfl)))) rfl
theorem q_2_141 : Cond.selects R_LI y_LI_clear y_LI_clear ∈ fm_T := fm_inT (List.mem_append_right _ (List.mem_append_right _ (List.mem_append_left _ (List.mem_of_getElem? (i := 141) rfl)))) rfl
theorem q_2_142 : Cond.code y_LI_clear prog_5_method_2_code 1 none ∈ fm_T := fm_inT (List.mem_append_right _ (List.mem_append_right _ (List.mem_append_left _ (List.mem_of_getElem? (i := 142) rfl)))) rfl
theorem q_2_143 : Cond.methodLink R_LW 70 y_LW_about ∈ fm_T := fm_inT (List.mem_append_right _ (List.mem_append_right _ (List.mem_append_left _ (List.mem_of_getElem? (i := 143) rfl)))) rfl
theorem q_2_144 : Cond.static y_LW_about ∈ fm_T := fm_inT (List.mem_append_right _ (List.mem_append_right _ (List.mem_append_left _ (List.mem_of_getElem? (i := 144) rfl)))) rfl
theorem q_2_145 : Cond.codeWith y_LW_about method_4_code 4 (some .int) [(0, 9, 12, 18), (0, 9, 15, 20)] ∈ fm_T := fm_inT (List.mem_append_right _ (List.mem_append_right _ (List.mem_append_left _ (List.mem_of_getElem? (i := 145) rfl)))) rfl
theorem q_2_146 : Cond.classLink R_LW 18 "java/lang/IllegalStateException" ∈ fm_T := fm_inT (List.mem_append_right _ (List.mem_append_right _ (List.mem_append_left _ (List.mem_of_getElem? (i := 146) rfl)))) rfl
theorem q_2_147 : Cond.classLink R_LW 20 "java/lang/IndexOutOfBoundsException" ∈ fm_T := fm_inT (List.mem_append_right _ (List.mem_append_right _ (List.mem_append_left _ (List.mem_of_getElem? (i := 147) rfl)))) rfl
theorem q_2_148 : Cond.methodLink R_LW 15 y_FM_about ∈ fm_T := fm_inT (List.mem_append_right _ (List.mem_append_right _ (List.mem_append_left _ (List.mem_of_getElem? (i := 148) rfl)))) rfl
theorem q_2_149 : Cond.instanceMethod y_FM_about ∈ fm_T := fm_inT (List.mem_append_right _ (List.mem_append_right _ (List.mem_append_left _ (List.mem_of_getElem? (i := 149) rfl)))) rfl
theorem q_2_150 : Cond.selects R_FM y_FM_about y_FM_about ∈ fm_T := fm_inT (List.mem_append_right _ (List.mem_append_right _ (List.mem_append_left _ (List.mem_of_getElem? (i := 150) rfl)))) rfl
theorem q_2_151 : Cond.code y_FM_about prog_1_method_5_code 2 (some .int) ∈ fm_T := fm_inT (List.mem_append_right _ (List.mem_append_right _ (List.mem_append_left _ (List.mem_of_getElem? (i := 151) rfl)))) rfl
theorem q_2_152 : Cond.methodLink R_FM 92 y_FM_requireFont ∈ fm_T := fm_inT (List.mem_append_right _ (List.mem_append_right _ (List.mem_append_left _ (List.mem_of_getElem? (i := 152) rfl)))) rfl
theorem q_2_154 : Cond.instanceMethod y_FM_requireFont ∈ fm_T := fm_inT (List.mem_append_right _ (List.mem_append_right _ (List.mem_append_left _ (List.mem_of_getElem? (i := 154) rfl)))) rfl
theorem q_2_155 : Cond.code y_FM_requireFont prog_1_method_17_code 1 none ∈ fm_T := fm_inT (List.mem_append_right _ (List.mem_append_right _ (List.mem_append_left _ (List.mem_of_getElem? (i := 155) rfl)))) rfl
theorem q_2_156 : Cond.classLink R_FM 193 "java/lang/IllegalStateException" ∈ fm_T := fm_inT (List.mem_append_right _ (List.mem_append_right _ (List.mem_append_left _ (List.mem_of_getElem? (i := 156) rfl)))) rfl
theorem q_2_157 : Cond.instantiable "java/lang/IllegalStateException" 6 ∈ fm_T := fm_inT (List.mem_append_right _ (List.mem_append_right _ (List.mem_append_left _ (List.mem_of_getElem? (i := 157) rfl)))) rfl
theorem q_2_159 : Cond.selects "java/lang/IllegalStateException" (⟨"java/lang/Throwable", "fillInStackTrace", "(I)Ljava/lang/Throwable;"⟩ : MethodName) (⟨"java/lang/Throwable", "fillInStackTrace", "(I)Ljava/lang/Throwable;"⟩ : MethodName) ∈ fm_T := fm_inT (List.mem_append_right _ (List.mem_append_right _ (List.mem_append_left _ (List.mem_of_getElem? (i := 159) rfl)))) rfl
theorem q_2_160 : Cond.lays "java/lang/IllegalStateException" "java/lang/Throwable" "cause" "Ljava/lang/Throwable;" ∈ fm_T := fm_inT (List.mem_append_right _ (List.mem_append_right _ (List.mem_append_left _ (List.mem_of_getElem? (i := 160) rfl)))) rfl
theorem q_2_161 : Cond.lays "java/lang/IllegalStateException" "java/lang/Throwable" "stackTrace" "[Ljava/lang/StackTraceElement;" ∈ fm_T := fm_inT (List.mem_append_right _ (List.mem_append_right _ (List.mem_append_left _ (List.mem_of_getElem? (i := 161) rfl)))) rfl
theorem q_2_162 : Cond.lays "java/lang/IllegalStateException" "java/lang/Throwable" "suppressedExceptions" "Ljava/util/List;" ∈ fm_T := fm_inT (List.mem_append_right _ (List.mem_append_right _ (List.mem_append_left _ (List.mem_of_getElem? (i := 162) rfl)))) rfl
theorem q_2_163 : Cond.lays "java/lang/IllegalStateException" "java/lang/Throwable" "detailMessage" "Ljava/lang/String;" ∈ fm_T := fm_inT (List.mem_append_right _ (List.mem_append_right _ (List.mem_append_left _ (List.mem_of_getElem? (i := 163) rfl)))) rfl
theorem q_2_164 : Cond.lays "java/lang/IllegalStateException" "java/lang/Throwable" "backtrace" "Ljava/lang/Object;" ∈ fm_T := fm_inT (List.mem_append_right _ (List.mem_append_right _ (List.mem_append_left _ (List.mem_of_getElem? (i := 164) rfl)))) rfl
theorem q_2_166 : Cond.methodLink R_FM 197 (⟨"java/lang/IllegalStateException", "<init>", "(Ljava/lang/String;)V"⟩ : MethodName) ∈ fm_T := fm_inT (List.mem_append_right _ (List.mem_append_right _ (List.mem_append_left _ (List.mem_of_getElem? (i := 166) rfl)))) rfl
theorem q_2_167 : Cond.instanceMethod (⟨"java/lang/IllegalStateException", "<init>", "(Ljava/lang/String;)V"⟩ : MethodName) ∈ fm_T := fm_inT (List.mem_append_right _ (List.mem_append_right _ (List.mem_append_left _ (List.mem_of_getElem? (i := 167) rfl)))) rfl
theorem q_2_168 : Cond.code (⟨"java/lang/IllegalStateException", "<init>", "(Ljava/lang/String;)V"⟩ : MethodName) prog_10_method_2_code 2 none ∈ fm_T := fm_inT (List.mem_append_right _ (List.mem_append_right _ (List.mem_append_left _ (List.mem_of_getElem? (i := 168) rfl)))) rfl
theorem q_2_169 : Cond.methodLink "java/lang/IllegalStateException" 7 (⟨"java/lang/RuntimeException", "<init>", "(Ljava/lang/String;)V"⟩ : MethodName) ∈ fm_T := fm_inT (List.mem_append_right _ (List.mem_append_right _ (List.mem_append_left _ (List.mem_of_getElem? (i := 169) rfl)))) rfl
theorem q_2_170 : Cond.lays "java/lang/IllegalStateException" "java/lang/Throwable" "depth" "I" ∈ fm_T := fm_inT (List.mem_append_right _ (List.mem_append_right _ (List.mem_append_left _ (List.mem_of_getElem? (i := 170) rfl)))) rfl
theorem q_2_172 : Cond.methodLink R_FM 104 y_FO_lengthOf ∈ fm_T := fm_inT (List.mem_append_right _ (List.mem_append_right _ (List.mem_append_left _ (List.mem_of_getElem? (i := 172) rfl)))) rfl
theorem q_2_173 : Cond.methodLink R_FM 108 y_FO_edge ∈ fm_T := fm_inT (List.mem_append_right _ (List.mem_append_right _ (List.mem_append_left _ (List.mem_of_getElem? (i := 173) rfl)))) rfl
theorem q_2_174 : Cond.methodLink R_FM 111 y_FO_edgeStart ∈ fm_T := fm_inT (List.mem_append_right _ (List.mem_append_right _ (List.mem_append_left _ (List.mem_of_getElem? (i := 174) rfl)))) rfl
theorem q_2_175 : Cond.instanceMethod y_FO_edgeStart ∈ fm_T := fm_inT (List.mem_append_right _ (List.mem_append_right _ (List.mem_append_left _ (List.mem_of_getElem? (i := 175) rfl)))) rfl
theorem q_2_176 : Cond.selects R_FO y_FO_edgeStart y_FO_edgeStart ∈ fm_T := fm_inT (List.mem_append_right _ (List.mem_append_right _ (List.mem_append_left _ (List.mem_of_getElem? (i := 176) rfl)))) rfl
theorem q_2_177 : Cond.code y_FO_edgeStart prog_4_method_17_code 2 (some .int) ∈ fm_T := fm_inT (List.mem_append_right _ (List.mem_append_right _ (List.mem_append_left _ (List.mem_of_getElem? (i := 177) rfl)))) rfl
theorem q_2_178 : Cond.methodLink R_FO 85 y_FO_lengthOf ∈ fm_T := fm_inT (List.mem_append_right _ (List.mem_append_right _ (List.mem_append_left _ (List.mem_of_getElem? (i := 178) rfl)))) rfl
theorem q_2_179 : Cond.methodLink R_FO 88 y_FO_target ∈ fm_T := fm_inT (List.mem_append_right _ (List.mem_append_right _ (List.mem_append_left _ (List.mem_of_getElem? (i := 179) rfl)))) rfl
theorem q_2_180 : Cond.classLink R_FM 114 "java/lang/IndexOutOfBoundsException" ∈ fm_T := fm_inT (List.mem_append_right _ (List.mem_append_right _ (List.mem_append_left _ (List.mem_of_getElem? (i := 180) rfl)))) rfl
theorem q_2_181 : Cond.instantiable "java/lang/IndexOutOfBoundsException" 6 ∈ fm_T := fm_inT (List.mem_append_right _ (List.mem_append_right _ (List.mem_append_left _ (List.mem_of_getElem? (i := 181) rfl)))) rfl
theorem q_2_183 : Cond.selects "java/lang/IndexOutOfBoundsException" (⟨"java/lang/Throwable", "fillInStackTrace", "(I)Ljava/lang/Throwable;"⟩ : MethodName) (⟨"java/lang/Throwable", "fillInStackTrace", "(I)Ljava/lang/Throwable;"⟩ : MethodName) ∈ fm_T := fm_inT (List.mem_append_right _ (List.mem_append_right _ (List.mem_append_left _ (List.mem_of_getElem? (i := 183) rfl)))) rfl
theorem q_2_184 : Cond.lays "java/lang/IndexOutOfBoundsException" "java/lang/Throwable" "cause" "Ljava/lang/Throwable;" ∈ fm_T := fm_inT (List.mem_append_right _ (List.mem_append_right _ (List.mem_append_left _ (List.mem_of_getElem? (i := 184) rfl)))) rfl
theorem q_2_185 : Cond.lays "java/lang/IndexOutOfBoundsException" "java/lang/Throwable" "stackTrace" "[Ljava/lang/StackTraceElement;" ∈ fm_T := fm_inT (List.mem_append_right _ (List.mem_append_right _ (List.mem_append_left _ (List.mem_of_getElem? (i := 185) rfl)))) rfl
theorem q_2_186 : Cond.lays "java/lang/IndexOutOfBoundsException" "java/lang/Throwable" "suppressedExceptions" "Ljava/util/List;" ∈ fm_T := fm_inT (List.mem_append_right _ (List.mem_append_right _ (List.mem_append_left _ (List.mem_of_getElem? (i := 186) rfl)))) rfl
theorem q_2_187 : Cond.lays "java/lang/IndexOutOfBoundsException" "java/lang/Throwable" "detailMessage" "Ljava/lang/String;" ∈ fm_T := fm_inT (List.mem_append_right _ (List.mem_append_right _ (List.mem_append_left _ (List.mem_of_getElem? (i := 187) rfl)))) rfl
theorem q_2_188 : Cond.lays "java/lang/IndexOutOfBoundsException" "java/lang/Throwable" "backtrace" "Ljava/lang/Object;" ∈ fm_T := fm_inT (List.mem_append_right _ (List.mem_append_right _ (List.mem_append_left _ (List.mem_of_getElem? (i := 188) rfl)))) rfl
theorem q_2_190 : Cond.methodLink R_FM 118 (⟨"java/lang/IndexOutOfBoundsException", "<init>", "(Ljava/lang/String;)V"⟩ : MethodName) ∈ fm_T := fm_inT (List.mem_append_right _ (List.mem_append_right _ (List.mem_append_left _ (List.mem_of_getElem? (i := 190) rfl)))) rfl
theorem q_2_191 : Cond.instanceMethod (⟨"java/lang/IndexOutOfBoundsException", "<init>", "(Ljava/lang/String;)V"⟩ : MethodName) ∈ fm_T := fm_inT (List.mem_append_right _ (List.mem_append_right _ (List.mem_append_left _ (List.mem_of_getElem? (i := 191) rfl)))) rfl
theorem q_2_192 : Cond.code (⟨"java/lang/IndexOutOfBoundsException", "<init>", "(Ljava/lang/String;)V"⟩ : MethodName) prog_11_method_2_code 2 none ∈ fm_T := fm_inT (List.mem_append_right _ (List.mem_append_right _ (List.mem_append_left _ (List.mem_of_getElem? (i := 192) rfl)))) rfl
theorem q_2_193 : Cond.methodLink "java/lang/IndexOutOfBoundsException" 7 (⟨"java/lang/RuntimeException", "<init>", "(Ljava/lang/String;)V"⟩ : MethodName) ∈ fm_T := fm_inT (List.mem_append_right _ (List.mem_append_right _ (List.mem_append_left _ (List.mem_of_getElem? (i := 193) rfl)))) rfl
theorem q_2_194 : Cond.lays "java/lang/IndexOutOfBoundsException" "java/lang/Throwable" "depth" "I" ∈ fm_T := fm_inT (List.mem_append_right _ (List.mem_append_right _ (List.mem_append_left _ (List.mem_of_getElem? (i := 194) rfl)))) rfl
theorem q_2_196 : Cond.methodLink R_LW 77 y_LW_of ∈ fm_T := fm_inT (List.mem_append_right _ (List.mem_append_right _ (List.mem_append_left _ (List.mem_of_getElem? (i := 196) rfl)))) rfl
theorem q_2_197 : Cond.static y_LW_of ∈ fm_T := fm_inT (List.mem_append_right _ (List.mem_append_right _ (List.mem_append_left _ (List.mem_of_getElem? (i := 197) rfl)))) rfl
theorem q_2_198 : Cond.codeWith y_LW_of method_5_code 5 (some .int) [(0, 10, 13, 18), (0, 10, 17, 20)] ∈ fm_T := fm_inT (List.mem_append_right _ (List.mem_append_right _ (List.mem_append_left _ (List.mem_of_getElem? (i := 198) rfl)))) rfl
theorem q_2_199 : Cond.methodLink R_LW 22 y_FM_of ∈ fm_T := fm_inT (List.mem_append_right _ (List.mem_append_right _ (List.mem_append_left _ (List.mem_of_getElem? (i := 199) rfl)))) rfl
theorem q_2_200 : Cond.instanceMethod y_FM_of ∈ fm_T := fm_inT (List.mem_append_right _ (List.mem_append_right _ (List.mem_append_left _ (List.mem_of_getElem? (i := 200) rfl)))) rfl
theorem q_2_201 : Cond.selects R_FM y_FM_of y_FM_of ∈ fm_T := fm_inT (List.mem_append_right _ (List.mem_append_right _ (List.mem_append_left _ (List.mem_of_getElem? (i := 201) rfl)))) rfl
theorem q_2_202 : Cond.code y_FM_of prog_1_method_7_code 3 (some .int) ∈ fm_T := fm_inT (List.mem_append_right _ (List.mem_append_right _ (List.mem_append_left _ (List.mem_of_getElem? (i := 202) rfl)))) rfl
theorem q_2_203 : Cond.methodLink R_FM 122 y_FM_requireThere ∈ fm_T := fm_inT (List.mem_append_right _ (List.mem_append_right _ (List.mem_append_left _ (List.mem_of_getElem? (i := 203) rfl)))) rfl
theorem q_2_205 : Cond.instanceMethod y_FM_requireThere ∈ fm_T := fm_inT (List.mem_append_right _ (List.mem_append_right _ (List.mem_append_left _ (List.mem_of_getElem? (i := 205) rfl)))) rfl
theorem q_2_206 : Cond.code y_FM_requireThere prog_1_method_18_code 2 none ∈ fm_T := fm_inT (List.mem_append_right _ (List.mem_append_right _ (List.mem_append_left _ (List.mem_of_getElem? (i := 206) rfl)))) rfl
theorem q_2_208 : Cond.methodLink R_FM 125 y_FO_width ∈ fm_T := fm_inT (List.mem_append_right _ (List.mem_append_right _ (List.mem_append_left _ (List.mem_of_getElem? (i := 208) rfl)))) rfl
theorem q_2_209 : Cond.methodLink R_FM 128 y_FO_height ∈ fm_T := fm_inT (List.mem_append_right _ (List.mem_append_right _ (List.mem_append_left _ (List.mem_of_getElem? (i := 209) rfl)))) rfl
theorem q_2_210 : Cond.instanceMethod y_FO_height ∈ fm_T := fm_inT (List.mem_append_right _ (List.mem_append_right _ (List.mem_append_left _ (List.mem_of_getElem? (i := 210) rfl)))) rfl
theorem q_2_211 : Cond.selects R_FO y_FO_height y_FO_height ∈ fm_T := fm_inT (List.mem_append_right _ (List.mem_append_right _ (List.mem_append_left _ (List.mem_of_getElem? (i := 211) rfl)))) rfl
theorem q_2_212 : Cond.code y_FO_height prog_4_method_13_code 2 (some .int) ∈ fm_T := fm_inT (List.mem_append_right _ (List.mem_append_right _ (List.mem_append_left _ (List.mem_of_getElem? (i := 212) rfl)))) rfl
theorem q_2_213 : Cond.methodLink R_FO 76 y_FO_heightPlace ∈ fm_T := fm_inT (List.mem_append_right _ (List.mem_append_right _ (List.mem_append_left _ (List.mem_of_getElem? (i := 213) rfl)))) rfl
theorem q_2_214 : Cond.methodLink R_FM 131 y_FO_depth ∈ fm_T := fm_inT (List.mem_append_right _ (List.mem_append_right _ (List.mem_append_left _ (List.mem_of_getElem? (i := 214) rfl)))) rfl
theorem q_2_215 : Cond.instanceMethod y_FO_depth ∈ fm_T := fm_inT (List.mem_append_right _ (List.mem_append_right _ (List.mem_append_left _ (List.mem_of_getElem? (i := 215) rfl)))) rfl
theorem q_2_216 : Cond.selects R_FO y_FO_depth y_FO_depth ∈ fm_T := fm_inT (List.mem_append_right _ (List.mem_append_right _ (List.mem_append_left _ (List.mem_of_getElem? (i := 216) rfl)))) rfl
theorem q_2_217 : Cond.code y_FO_depth prog_4_method_14_code 2 (some .int) ∈ fm_T := fm_inT (List.mem_append_right _ (List.mem_append_right _ (List.mem_append_left _ (List.mem_of_getElem? (i := 217) rfl)))) rfl
theorem q_2_218 : Cond.methodLink R_FO 79 y_FO_depthPlace ∈ fm_T := fm_inT (List.mem_append_right _ (List.mem_append_right _ (List.mem_append_left _ (List.mem_of_getElem? (i := 218) rfl)))) rfl
theorem q_2_219 : Cond.methodLink R_FM 134 y_FO_italic ∈ fm_T := fm_inT (List.mem_append_right _ (List.mem_append_right _ (List.mem_append_left _ (List.mem_of_getElem? (i := 219) rfl)))) rfl
theorem q_2_220 : Cond.instanceMethod y_FO_italic ∈ fm_T := fm_inT (List.mem_append_right _ (List.mem_append_right _ (List.mem_append_left _ (List.mem_of_getElem? (i := 220) rfl)))) rfl
theorem q_2_221 : Cond.selects R_FO y_FO_italic y_FO_italic ∈ fm_T := fm_inT (List.mem_append_right _ (List.mem_append_right _ (List.mem_append_left _ (List.mem_of_getElem? (i := 221) rfl)))) rfl
theorem q_2_222 : Cond.code y_FO_italic prog_4_method_15_code 2 (some .int) ∈ fm_T := fm_inT (List.mem_append_right _ (List.mem_append_right _ (List.mem_append_left _ (List.mem_of_getElem? (i := 222) rfl)))) rfl
theorem q_2_223 : Cond.methodLink R_FO 82 y_FO_italicPlace ∈ fm_T := fm_inT (List.mem_append_right _ (List.mem_append_right _ (List.mem_append_left _ (List.mem_of_getElem? (i := 223) rfl)))) rfl
theorem q_2_224 : Cond.methodLink R_FM 137 y_FO_character ∈ fm_T := fm_inT (List.mem_append_right _ (List.mem_append_right _ (List.mem_append_left _ (List.mem_of_getElem? (i := 224) rfl)))) rfl
theorem q_2_225 : Cond.methodLink R_FM 140 y_FO_tag ∈ fm_T := fm_inT (List.mem_append_right _ (List.mem_append_right _ (List.mem_append_left _ (List.mem_of_getElem? (i := 225) rfl)))) rfl
theorem q_2_226 : Cond.methodLink R_FM 143 y_FO_rest ∈ fm_T := fm_inT (List.mem_append_right _ (List.mem_append_right _ (List.mem_append_left _ (List.mem_of_getElem? (i := 226) rfl)))) rfl
theorem q_2_227 : Cond.methodLink R_LW 81 y_LW_part ∈ fm_T := fm_inT (List.mem_append_right _ (List.mem_append_right _ (List.mem_append_left _ (List.mem_of_getElem? (i := 227) rfl)))) rfl
theorem q_2_228 : Cond.static y_LW_part ∈ fm_T := fm_inT (List.mem_append_right _ (List.mem_append_right _ (List.mem_append_left _ (List.mem_of_getElem? (i := 228) rfl)))) rfl
theorem q_2_229 : Cond.codeWith y_LW_part method_6_code 5 (some .int) [(0, 10, 13, 18), (0, 10, 17, 20)] ∈ fm_T := fm_inT (List.mem_append_right _ (List.mem_append_right _ (List.mem_append_left _ (List.mem_of_getElem? (i := 229) rfl)))) rfl
theorem q_2_230 : Cond.methodLink R_LW 26 y_FM_part ∈ fm_T := fm_inT (List.mem_append_right _ (List.mem_append_right _ (List.mem_append_left _ (List.mem_of_getElem? (i := 230) rfl)))) rfl
theorem q_2_231 : Cond.instanceMethod y_FM_part ∈ fm_T := fm_inT (List.mem_append_right _ (List.mem_append_right _ (List.mem_append_left _ (List.mem_of_getElem? (i := 231) rfl)))) rfl
theorem q_2_232 : Cond.selects R_FM y_FM_part y_FM_part ∈ fm_T := fm_inT (List.mem_append_right _ (List.mem_append_right _ (List.mem_append_left _ (List.mem_of_getElem? (i := 232) rfl)))) rfl
theorem q_2_233 : Cond.code y_FM_part prog_1_method_8_code 4 (some .int) ∈ fm_T := fm_inT (List.mem_append_right _ (List.mem_append_right _ (List.mem_append_left _ (List.mem_of_getElem? (i := 233) rfl)))) rfl
theorem q_2_235 : Cond.methodLink R_FM 148 y_FO_word ∈ fm_T := fm_inT (List.mem_append_right _ (List.mem_append_right _ (List.mem_append_left _ (List.mem_of_getElem? (i := 235) rfl)))) rfl
theorem q_2_236 : Cond.methodLink R_FM 152 y_FO_byteOf ∈ fm_T := fm_inT (List.mem_append_right _ (List.mem_append_right _ (List.mem_append_left _ (List.mem_of_getElem? (i := 236) rfl)))) rfl
theorem q_2_237 : Cond.methodLink R_LW 84 y_LW_parameter ∈ fm_T := fm_inT (List.mem_append_right _ (List.mem_append_right _ (List.mem_append_left _ (List.mem_of_getElem? (i := 237) rfl)))) rfl
theorem q_2_238 : Cond.static y_LW_parameter ∈ fm_T := fm_inT (List.mem_append_right _ (List.mem_append_right _ (List.mem_append_left _ (List.mem_of_getElem? (i := 238) rfl)))) rfl
theorem q_2_239 : Cond.codeWith y_LW_parameter method_7_code 4 (some .int) [(0, 9, 12, 18), (0, 9, 15, 20)] ∈ fm_T := fm_inT (List.mem_append_right _ (List.mem_append_right _ (List.mem_append_left _ (List.mem_of_getElem? (i := 239) rfl)))) rfl
theorem q_3_0 : Cond.methodLink R_LW 29 y_FM_parameter ∈ fm_T := fm_inT (List.mem_append_right _ (List.mem_append_right _ (List.mem_append_right _ (List.mem_append_left _ (List.mem_of_getElem? (i := 0) rfl))))) rfl
theorem q_3_1 : Cond.instanceMethod y_FM_parameter ∈ fm_T := fm_inT (List.mem_append_right _ (List.mem_append_right _ (List.mem_append_right _ (List.mem_append_left _ (List.mem_of_getElem? (i := 1) rfl))))) rfl
theorem q_3_2 : Cond.selects R_FM y_FM_parameter y_FM_parameter ∈ fm_T := fm_inT (List.mem_append_right _ (List.mem_append_right _ (List.mem_append_right _ (List.mem_append_left _ (List.mem_of_getElem? (i := 2) rfl))))) rfl
theorem q_3_3 : Cond.code y_FM_parameter prog_1_method_9_code 3 (some .int) ∈ fm_T := fm_inT (List.mem_append_right _ (List.mem_append_right _ (List.mem_append_right _ (List.mem_append_left _ (List.mem_of_getElem? (i := 3) rfl))))) rfl
theorem q_3_5 : Cond.methodLink R_FM 157 y_FO_scaled ∈ fm_T := fm_inT (List.mem_append_right _ (List.mem_append_right _ (List.mem_append_right _ (List.mem_append_left _ (List.mem_of_getElem? (i := 5) rfl))))) rfl
theorem q_3_6 : Cond.methodLink R_LW 87 y_LW_ask ∈ fm_T := fm_inT (List.mem_append_right _ (List.mem_append_right _ (List.mem_append_right _ (List.mem_append_left _ (List.mem_of_getElem? (i := 6) rfl))))) rfl
theorem q_3_7 : Cond.static y_LW_ask ∈ fm_T := fm_inT (List.mem_append_right _ (List.mem_append_right _ (List.mem_append_right _ (List.mem_append_left _ (List.mem_of_getElem? (i := 7) rfl))))) rfl
theorem q_3_8 : Cond.codeWith y_LW_ask method_8_code 5 (some .int) [(0, 10, 13, 18), (0, 10, 17, 20)] ∈ fm_T := fm_inT (List.mem_append_right _ (List.mem_append_right _ (List.mem_append_right _ (List.mem_append_left _ (List.mem_of_getElem? (i := 8) rfl))))) rfl
theorem q_3_9 : Cond.methodLink R_LW 32 y_FM_ask ∈ fm_T := fm_inT (List.mem_append_right _ (List.mem_append_right _ (List.mem_append_right _ (List.mem_append_left _ (List.mem_of_getElem? (i := 9) rfl))))) rfl
theorem q_3_10 : Cond.instanceMethod y_FM_ask ∈ fm_T := fm_inT (List.mem_append_right _ (List.mem_append_right _ (List.mem_append_right _ (List.mem_append_left _ (List.mem_of_getElem? (i := 10) rfl))))) rfl
theorem q_3_11 : Cond.selects R_FM y_FM_ask y_FM_ask ∈ fm_T := fm_inT (List.mem_append_right _ (List.mem_append_right _ (List.mem_append_right _ (List.mem_append_left _ (List.mem_of_getElem? (i := 11) rfl))))) rfl
theorem q_3_12 : Cond.code y_FM_ask prog_1_method_10_code 3 (some .int) ∈ fm_T := fm_inT (List.mem_append_right _ (List.mem_append_right _ (List.mem_append_right _ (List.mem_append_left _ (List.mem_of_getElem? (i := 12) rfl))))) rfl
theorem q_3_13 : Cond.methodLink R_FM 160 y_FM_requireThereOrEdge ∈ fm_T := fm_inT (List.mem_append_right _ (List.mem_append_right _ (List.mem_append_right _ (List.mem_append_left _ (List.mem_of_getElem? (i := 13) rfl))))) rfl
theorem q_3_15 : Cond.instanceMethod y_FM_requireThereOrEdge ∈ fm_T := fm_inT (List.mem_append_right _ (List.mem_append_right _ (List.mem_append_right _ (List.mem_append_left _ (List.mem_of_getElem? (i := 15) rfl))))) rfl
theorem q_3_16 : Cond.code y_FM_requireThereOrEdge prog_1_method_19_code 2 none ∈ fm_T := fm_inT (List.mem_append_right _ (List.mem_append_right _ (List.mem_append_right _ (List.mem_append_left _ (List.mem_of_getElem? (i := 16) rfl))))) rfl
theorem q_3_17 : Cond.methodLink R_FM 163 y_FO_find ∈ fm_T := fm_inT (List.mem_append_right _ (List.mem_append_right _ (List.mem_append_right _ (List.mem_append_left _ (List.mem_of_getElem? (i := 17) rfl))))) rfl
theorem q_3_18 : Cond.instanceMethod y_FO_find ∈ fm_T := fm_inT (List.mem_append_right _ (List.mem_append_right _ (List.mem_append_right _ (List.mem_append_left _ (List.mem_of_getElem? (i := 18) rfl))))) rfl
theorem q_3_19 : Cond.selects R_FO y_FO_find y_FO_find ∈ fm_T := fm_inT (List.mem_append_right _ (List.mem_append_right _ (List.mem_append_right _ (List.mem_append_left _ (List.mem_of_getElem? (i := 19) rfl))))) rfl
theorem q_3_20 : Cond.code y_FO_find prog_4_method_18_code 10 (some .int) ∈ fm_T := fm_inT (List.mem_append_right _ (List.mem_append_right _ (List.mem_append_right _ (List.mem_append_left _ (List.mem_of_getElem? (i := 20) rfl))))) rfl
theorem q_3_21 : Cond.methodLink R_FO 91 y_FO_programStart ∈ fm_T := fm_inT (List.mem_append_right _ (List.mem_append_right _ (List.mem_append_right _ (List.mem_append_left _ (List.mem_of_getElem? (i := 21) rfl))))) rfl
theorem q_3_23 : Cond.instanceMethod y_FO_programStart ∈ fm_T := fm_inT (List.mem_append_right _ (List.mem_append_right _ (List.mem_append_right _ (List.mem_append_left _ (List.mem_of_getElem? (i := 23) rfl))))) rfl
theorem q_3_24 : Cond.code y_FO_programStart prog_4_method_19_code 4 (some .int) ∈ fm_T := fm_inT (List.mem_append_right _ (List.mem_append_right _ (List.mem_append_right _ (List.mem_append_left _ (List.mem_of_getElem? (i := 24) rfl))))) rfl
theorem q_3_25 : Cond.methodLink R_FO 101 y_FO_edgeStart ∈ fm_T := fm_inT (List.mem_append_right _ (List.mem_append_right _ (List.mem_append_right _ (List.mem_append_left _ (List.mem_of_getElem? (i := 25) rfl))))) rfl
theorem q_3_26 : Cond.methodLink R_FO 104 y_FO_startOfCharacter ∈ fm_T := fm_inT (List.mem_append_right _ (List.mem_append_right _ (List.mem_append_right _ (List.mem_append_left _ (List.mem_of_getElem? (i := 26) rfl))))) rfl
theorem q_3_27 : Cond.static y_FO_startOfCharacter ∈ fm_T := fm_inT (List.mem_append_right _ (List.mem_append_right _ (List.mem_append_right _ (List.mem_append_left _ (List.mem_of_getElem? (i := 27) rfl))))) rfl
theorem q_3_28 : Cond.code y_FO_startOfCharacter prog_4_method_20_code 1 (some .int) ∈ fm_T := fm_inT (List.mem_append_right _ (List.mem_append_right _ (List.mem_append_right _ (List.mem_append_left _ (List.mem_of_getElem? (i := 28) rfl))))) rfl
theorem q_3_29 : Cond.methodLink R_FO 107 y_FO_tag ∈ fm_T := fm_inT (List.mem_append_right _ (List.mem_append_right _ (List.mem_append_right _ (List.mem_append_left _ (List.mem_of_getElem? (i := 29) rfl))))) rfl
theorem q_3_30 : Cond.methodLink R_FO 110 y_FO_rest ∈ fm_T := fm_inT (List.mem_append_right _ (List.mem_append_right _ (List.mem_append_right _ (List.mem_append_left _ (List.mem_of_getElem? (i := 30) rfl))))) rfl
theorem q_3_31 : Cond.methodLink R_FO 94 y_FO_edge ∈ fm_T := fm_inT (List.mem_append_right _ (List.mem_append_right _ (List.mem_append_right _ (List.mem_append_left _ (List.mem_of_getElem? (i := 31) rfl))))) rfl
theorem q_3_32 : Cond.methodLink R_FO 98 y_FO_saying ∈ fm_T := fm_inT (List.mem_append_right _ (List.mem_append_right _ (List.mem_append_right _ (List.mem_append_left _ (List.mem_of_getElem? (i := 32) rfl))))) rfl
theorem q_3_33 : Cond.methodLink R_LW 94 y_LW_set ∈ fm_T := fm_inT (List.mem_append_right _ (List.mem_append_right _ (List.mem_append_right _ (List.mem_append_left _ (List.mem_of_getElem? (i := 33) rfl))))) rfl
theorem q_3_34 : Cond.static y_LW_set ∈ fm_T := fm_inT (List.mem_append_right _ (List.mem_append_right _ (List.mem_append_right _ (List.mem_append_left _ (List.mem_of_getElem? (i := 34) rfl))))) rfl
theorem q_3_35 : Cond.codeWith y_LW_set method_9_code 3 (some .int) [(0, 8, 11, 18)] ∈ fm_T := fm_inT (List.mem_append_right _ (List.mem_append_right _ (List.mem_append_right _ (List.mem_append_left _ (List.mem_of_getElem? (i := 35) rfl))))) rfl
theorem q_3_36 : Cond.methodLink R_LW 35 y_FM_set ∈ fm_T := fm_inT (List.mem_append_right _ (List.mem_append_right _ (List.mem_append_right _ (List.mem_append_left _ (List.mem_of_getElem? (i := 36) rfl))))) rfl
theorem q_3_37 : Cond.instanceMethod y_FM_set ∈ fm_T := fm_inT (List.mem_append_right _ (List.mem_append_right _ (List.mem_append_right _ (List.mem_append_left _ (List.mem_of_getElem? (i := 37) rfl))))) rfl
theorem q_3_38 : Cond.selects R_FM y_FM_set y_FM_set ∈ fm_T := fm_inT (List.mem_append_right _ (List.mem_append_right _ (List.mem_append_right _ (List.mem_append_left _ (List.mem_of_getElem? (i := 38) rfl))))) rfl
theorem q_3_39 : Cond.code y_FM_set prog_1_method_12_code 1 (some .int) ∈ fm_T := fm_inT (List.mem_append_right _ (List.mem_append_right _ (List.mem_append_right _ (List.mem_append_left _ (List.mem_of_getElem? (i := 39) rfl))))) rfl
theorem q_3_40 : Cond.methodLink R_FM 166 y_FM_rowIsThere ∈ fm_T := fm_inT (List.mem_append_right _ (List.mem_append_right _ (List.mem_append_right _ (List.mem_append_left _ (List.mem_of_getElem? (i := 40) rfl))))) rfl
theorem q_3_42 : Cond.instanceMethod y_FM_rowIsThere ∈ fm_T := fm_inT (List.mem_append_right _ (List.mem_append_right _ (List.mem_append_right _ (List.mem_append_left _ (List.mem_of_getElem? (i := 42) rfl))))) rfl
theorem q_3_43 : Cond.code y_FM_rowIsThere prog_1_method_16_code 2 (some .boolean) ∈ fm_T := fm_inT (List.mem_append_right _ (List.mem_append_right _ (List.mem_append_right _ (List.mem_append_left _ (List.mem_of_getElem? (i := 43) rfl))))) rfl
theorem q_3_44 : Cond.methodLink R_FM 170 y_LI_lay ∈ fm_T := fm_inT (List.mem_append_right _ (List.mem_append_right _ (List.mem_append_right _ (List.mem_append_left _ (List.mem_of_getElem? (i := 44) rfl))))) rfl
theorem q_3_45 : Cond.instanceMethod y_LI_lay ∈ fm_T := fm_inT (List.mem_append_right _ (List.mem_append_right _ (List.mem_append_right _ (List.mem_append_left _ (List.mem_of_getElem? (i := 45) rfl))))) rfl
theorem q_3_46 : Cond.selects R_LI y_LI_lay y_LI_lay ∈ fm_T := fm_inT (List.mem_append_right _ (List.mem_append_right _ (List.mem_append_right _ (List.mem_append_left _ (List.mem_of_getElem? (i := 46) rfl))))) rfl
theorem q_3_47 : Cond.code y_LI_lay prog_5_method_3_code 5 none ∈ fm_T := fm_inT (List.mem_append_right _ (List.mem_append_right _ (List.mem_append_right _ (List.mem_append_left _ (List.mem_of_getElem? (i := 47) rfl))))) rfl
theorem q_3_48 : Cond.methodLink R_LI 29 y_FO_edge ∈ fm_T := fm_inT (List.mem_append_right _ (List.mem_append_right _ (List.mem_append_right _ (List.mem_append_left _ (List.mem_of_getElem? (i := 48) rfl))))) rfl
theorem q_3_49 : Cond.methodLink R_LI 35 y_LI_push ∈ fm_T := fm_inT (List.mem_append_right _ (List.mem_append_right _ (List.mem_append_right _ (List.mem_append_left _ (List.mem_of_getElem? (i := 49) rfl))))) rfl
theorem q_3_51 : Cond.instanceMethod y_LI_push ∈ fm_T := fm_inT (List.mem_append_right _ (List.mem_append_right _ (List.mem_append_right _ (List.mem_append_left _ (List.mem_of_getElem? (i := 51) rfl))))) rfl
theorem q_3_52 : Cond.code y_LI_push prog_5_method_8_code 2 none ∈ fm_T := fm_inT (List.mem_append_right _ (List.mem_append_right _ (List.mem_append_right _ (List.mem_append_left _ (List.mem_of_getElem? (i := 52) rfl))))) rfl
theorem q_3_53 : Cond.methodLink R_LI 39 (⟨"java/lang/Math", "min", "(II)I"⟩ : MethodName) ∈ fm_T := fm_inT (List.mem_append_right _ (List.mem_append_right _ (List.mem_append_right _ (List.mem_append_left _ (List.mem_of_getElem? (i := 53) rfl))))) rfl
theorem q_3_54 : Cond.methodLink R_LI 45 y_FO_edgeStart ∈ fm_T := fm_inT (List.mem_append_right _ (List.mem_append_right _ (List.mem_append_right _ (List.mem_append_left _ (List.mem_of_getElem? (i := 54) rfl))))) rfl
theorem q_3_55 : Cond.methodLink R_FM 174 y_LI_run ∈ fm_T := fm_inT (List.mem_append_right _ (List.mem_append_right _ (List.mem_append_right _ (List.mem_append_left _ (List.mem_of_getElem? (i := 55) rfl))))) rfl
theorem q_3_56 : Cond.instanceMethod y_LI_run ∈ fm_T := fm_inT (List.mem_append_right _ (List.mem_append_right _ (List.mem_append_right _ (List.mem_append_left _ (List.mem_of_getElem? (i := 56) rfl))))) rfl
theorem q_3_57 : Cond.selects R_LI y_LI_run y_LI_run ∈ fm_T := fm_inT (List.mem_append_right _ (List.mem_append_right _ (List.mem_append_right _ (List.mem_append_left _ (List.mem_of_getElem? (i := 57) rfl))))) rfl
theorem q_3_58 : Cond.code y_LI_run prog_5_method_4_code 3 (some .boolean) ∈ fm_T := fm_inT (List.mem_append_right _ (List.mem_append_right _ (List.mem_append_right _ (List.mem_append_left _ (List.mem_of_getElem? (i := 58) rfl))))) rfl
theorem q_3_59 : Cond.methodLink R_LI 48 y_LI_step ∈ fm_T := fm_inT (List.mem_append_right _ (List.mem_append_right _ (List.mem_append_right _ (List.mem_append_left _ (List.mem_of_getElem? (i := 59) rfl))))) rfl
theorem q_3_61 : Cond.instanceMethod y_LI_step ∈ fm_T := fm_inT (List.mem_append_right _ (List.mem_append_right _ (List.mem_append_right _ (List.mem_append_left _ (List.mem_of_getElem? (i := 61) rfl))))) rfl
theorem q_3_62 : Cond.code y_LI_step prog_5_method_5_code 5 none ∈ fm_T := fm_inT (List.mem_append_right _ (List.mem_append_right _ (List.mem_append_right _ (List.mem_append_left _ (List.mem_of_getElem? (i := 62) rfl))))) rfl
theorem q_3_63 : Cond.methodLink R_LI 58 y_LI_pendingAt ∈ fm_T := fm_inT (List.mem_append_right _ (List.mem_append_right _ (List.mem_append_right _ (List.mem_append_left _ (List.mem_of_getElem? (i := 63) rfl))))) rfl
theorem q_3_65 : Cond.instanceMethod y_LI_pendingAt ∈ fm_T := fm_inT (List.mem_append_right _ (List.mem_append_right _ (List.mem_append_right _ (List.mem_append_left _ (List.mem_of_getElem? (i := 65) rfl))))) rfl
theorem q_3_66 : Cond.code y_LI_pendingAt prog_5_method_9_code 3 (some .int) ∈ fm_T := fm_inT (List.mem_append_right _ (List.mem_append_right _ (List.mem_append_right _ (List.mem_append_left _ (List.mem_of_getElem? (i := 66) rfl))))) rfl
theorem q_3_67 : Cond.methodLink R_LI 62 y_FO_find ∈ fm_T := fm_inT (List.mem_append_right _ (List.mem_append_right _ (List.mem_append_right _ (List.mem_append_left _ (List.mem_of_getElem? (i := 67) rfl))))) rfl
theorem q_3_68 : Cond.methodLink R_LI 55 y_LI_pass ∈ fm_T := fm_inT (List.mem_append_right _ (List.mem_append_right _ (List.mem_append_right _ (List.mem_append_left _ (List.mem_of_getElem? (i := 68) rfl))))) rfl
theorem q_3_70 : Cond.instanceMethod y_LI_pass ∈ fm_T := fm_inT (List.mem_append_right _ (List.mem_append_right _ (List.mem_append_right _ (List.mem_append_left _ (List.mem_of_getElem? (i := 70) rfl))))) rfl
theorem q_3_71 : Cond.code y_LI_pass prog_5_method_7_code 4 none ∈ fm_T := fm_inT (List.mem_append_right _ (List.mem_append_right _ (List.mem_append_right _ (List.mem_append_left _ (List.mem_of_getElem? (i := 71) rfl))))) rfl
theorem q_3_72 : Cond.methodLink R_LI 69 y_LI_append ∈ fm_T := fm_inT (List.mem_append_right _ (List.mem_append_right _ (List.mem_append_right _ (List.mem_append_left _ (List.mem_of_getElem? (i := 72) rfl))))) rfl
theorem q_3_74 : Cond.instanceMethod y_LI_append ∈ fm_T := fm_inT (List.mem_append_right _ (List.mem_append_right _ (List.mem_append_right _ (List.mem_append_left _ (List.mem_of_getElem? (i := 74) rfl))))) rfl
theorem q_3_75 : Cond.code y_LI_append prog_5_method_10_code 3 none ∈ fm_T := fm_inT (List.mem_append_right _ (List.mem_append_right _ (List.mem_append_right _ (List.mem_append_left _ (List.mem_of_getElem? (i := 75) rfl))))) rfl
theorem q_3_76 : Cond.constant R_LI 65 32768 ∈ fm_T := fm_inT (List.mem_append_right _ (List.mem_append_right _ (List.mem_append_right _ (List.mem_append_left _ (List.mem_of_getElem? (i := 76) rfl))))) rfl
theorem q_3_77 : Cond.methodLink R_LI 66 y_FO_kern ∈ fm_T := fm_inT (List.mem_append_right _ (List.mem_append_right _ (List.mem_append_right _ (List.mem_append_left _ (List.mem_of_getElem? (i := 77) rfl))))) rfl
theorem q_3_78 : Cond.instanceMethod y_FO_kern ∈ fm_T := fm_inT (List.mem_append_right _ (List.mem_append_right _ (List.mem_append_right _ (List.mem_append_left _ (List.mem_of_getElem? (i := 78) rfl))))) rfl
theorem q_3_79 : Cond.selects R_FO y_FO_kern y_FO_kern ∈ fm_T := fm_inT (List.mem_append_right _ (List.mem_append_right _ (List.mem_append_right _ (List.mem_append_left _ (List.mem_of_getElem? (i := 79) rfl))))) rfl
theorem q_3_80 : Cond.code y_FO_kern prog_4_method_21_code 2 (some .int) ∈ fm_T := fm_inT (List.mem_append_right _ (List.mem_append_right _ (List.mem_append_right _ (List.mem_append_left _ (List.mem_of_getElem? (i := 80) rfl))))) rfl
theorem q_3_81 : Cond.methodLink R_LI 73 y_LI_join ∈ fm_T := fm_inT (List.mem_append_right _ (List.mem_append_right _ (List.mem_append_right _ (List.mem_append_left _ (List.mem_of_getElem? (i := 81) rfl))))) rfl
theorem q_3_83 : Cond.instanceMethod y_LI_join ∈ fm_T := fm_inT (List.mem_append_right _ (List.mem_append_right _ (List.mem_append_right _ (List.mem_append_left _ (List.mem_of_getElem? (i := 83) rfl))))) rfl
theorem q_3_84 : Cond.code y_LI_join prog_5_method_6_code 5 none ∈ fm_T := fm_inT (List.mem_append_right _ (List.mem_append_right _ (List.mem_append_right _ (List.mem_append_left _ (List.mem_of_getElem? (i := 84) rfl))))) rfl
theorem q_3_85 : Cond.methodLink R_LI 52 y_LI_clear ∈ fm_T := fm_inT (List.mem_append_right _ (List.mem_append_right _ (List.mem_append_right _ (List.mem_append_left _ (List.mem_of_getElem? (i := 85) rfl))))) rfl
theorem q_3_86 : Cond.methodLink R_LW 98 y_LW_isKern ∈ fm_T := fm_inT (List.mem_append_right _ (List.mem_append_right _ (List.mem_append_right _ (List.mem_append_left _ (List.mem_of_getElem? (i := 86) rfl))))) rfl
theorem q_3_87 : Cond.static y_LW_isKern ∈ fm_T := fm_inT (List.mem_append_right _ (List.mem_append_right _ (List.mem_append_right _ (List.mem_append_left _ (List.mem_of_getElem? (i := 87) rfl))))) rfl
theorem q_3_88 : Cond.codeWith y_LW_isKern method_10_code 4 (some .int) [(0, 16, 19, 20)] ∈ fm_T := fm_inT (List.mem_append_right _ (List.mem_append_right _ (List.mem_append_right _ (List.mem_append_left _ (List.mem_of_getElem? (i := 88) rfl))))) rfl
theorem q_3_89 : Cond.methodLink R_LW 39 y_FM_isKern ∈ fm_T := fm_inT (List.mem_append_right _ (List.mem_append_right _ (List.mem_append_right _ (List.mem_append_left _ (List.mem_of_getElem? (i := 89) rfl))))) rfl
theorem q_3_90 : Cond.instanceMethod y_FM_isKern ∈ fm_T := fm_inT (List.mem_append_right _ (List.mem_append_right _ (List.mem_append_right _ (List.mem_append_left _ (List.mem_of_getElem? (i := 90) rfl))))) rfl
theorem q_3_91 : Cond.selects R_FM y_FM_isKern y_FM_isKern ∈ fm_T := fm_inT (List.mem_append_right _ (List.mem_append_right _ (List.mem_append_right _ (List.mem_append_left _ (List.mem_of_getElem? (i := 91) rfl))))) rfl
theorem q_3_92 : Cond.code y_FM_isKern prog_1_method_13_code 2 (some .boolean) ∈ fm_T := fm_inT (List.mem_append_right _ (List.mem_append_right _ (List.mem_append_right _ (List.mem_append_left _ (List.mem_of_getElem? (i := 92) rfl))))) rfl
theorem q_3_93 : Cond.methodLink R_FM 181 y_FM_requireItem ∈ fm_T := fm_inT (List.mem_append_right _ (List.mem_append_right _ (List.mem_append_right _ (List.mem_append_left _ (List.mem_of_getElem? (i := 93) rfl))))) rfl
theorem q_3_95 : Cond.instanceMethod y_FM_requireItem ∈ fm_T := fm_inT (List.mem_append_right _ (List.mem_append_right _ (List.mem_append_right _ (List.mem_append_left _ (List.mem_of_getElem? (i := 95) rfl))))) rfl
theorem q_3_96 : Cond.code y_FM_requireItem prog_1_method_20_code 2 none ∈ fm_T := fm_inT (List.mem_append_right _ (List.mem_append_right _ (List.mem_append_right _ (List.mem_append_left _ (List.mem_of_getElem? (i := 96) rfl))))) rfl
theorem q_3_98 : Cond.methodLink R_FM 184 y_LI_kernAt ∈ fm_T := fm_inT (List.mem_append_right _ (List.mem_append_right _ (List.mem_append_right _ (List.mem_append_left _ (List.mem_of_getElem? (i := 98) rfl))))) rfl
theorem q_3_99 : Cond.methodLink R_LW 101 y_LW_item ∈ fm_T := fm_inT (List.mem_append_right _ (List.mem_append_right _ (List.mem_append_right _ (List.mem_append_left _ (List.mem_of_getElem? (i := 99) rfl))))) rfl
theorem q_3_100 : Cond.static y_LW_item ∈ fm_T := fm_inT (List.mem_append_right _ (List.mem_append_right _ (List.mem_append_right _ (List.mem_append_left _ (List.mem_of_getElem? (i := 100) rfl))))) rfl
theorem q_3_101 : Cond.codeWith y_LW_item method_11_code 4 (some .int) [(0, 9, 12, 20)] ∈ fm_T := fm_inT (List.mem_append_right _ (List.mem_append_right _ (List.mem_append_right _ (List.mem_append_left _ (List.mem_of_getElem? (i := 101) rfl))))) rfl
theorem q_3_102 : Cond.methodLink R_LW 43 y_FM_item ∈ fm_T := fm_inT (List.mem_append_right _ (List.mem_append_right _ (List.mem_append_right _ (List.mem_append_left _ (List.mem_of_getElem? (i := 102) rfl))))) rfl
theorem q_3_103 : Cond.instanceMethod y_FM_item ∈ fm_T := fm_inT (List.mem_append_right _ (List.mem_append_right _ (List.mem_append_right _ (List.mem_append_left _ (List.mem_of_getElem? (i := 103) rfl))))) rfl
theorem q_3_104 : Cond.selects R_FM y_FM_item y_FM_item ∈ fm_T := fm_inT (List.mem_append_right _ (List.mem_append_right _ (List.mem_append_right _ (List.mem_append_left _ (List.mem_of_getElem? (i := 104) rfl))))) rfl
theorem q_3_105 : Cond.code y_FM_item prog_1_method_14_code 2 (some .int) ∈ fm_T := fm_inT (List.mem_append_right _ (List.mem_append_right _ (List.mem_append_right _ (List.mem_append_left _ (List.mem_of_getElem? (i := 105) rfl))))) rfl
theorem q_3_106 : Cond.methodLink R_FM 187 y_LI_valueAt ∈ fm_T := fm_inT (List.mem_append_right _ (List.mem_append_right _ (List.mem_append_right _ (List.mem_append_left _ (List.mem_of_getElem? (i := 106) rfl))))) rfl
theorem q_3_107 : Cond.classLink R_LW 47 "FontMetricsModel" ∈ fm_T := fm_inT (List.mem_append_right _ (List.mem_append_right _ (List.mem_append_right _ (List.mem_append_left _ (List.mem_of_getElem? (i := 107) rfl))))) rfl
theorem q_3_108 : Cond.instantiable R_MO 11 ∈ fm_T := fm_inT (List.mem_append_right _ (List.mem_append_right _ (List.mem_append_right _ (List.mem_append_left _ (List.mem_of_getElem? (i := 108) rfl))))) rfl
theorem q_3_109 : Cond.methodLink R_LW 49 y_MO_init ∈ fm_T := fm_inT (List.mem_append_right _ (List.mem_append_right _ (List.mem_append_right _ (List.mem_append_left _ (List.mem_of_getElem? (i := 109) rfl))))) rfl
theorem q_3_110 : Cond.instanceMethod y_MO_init ∈ fm_T := fm_inT (List.mem_append_right _ (List.mem_append_right _ (List.mem_append_right _ (List.mem_append_left _ (List.mem_of_getElem? (i := 110) rfl))))) rfl
theorem q_3_111 : Cond.code y_MO_init prog_7_method_1_code 1 none ∈ fm_T := fm_inT (List.mem_append_right _ (List.mem_append_right _ (List.mem_append_right _ (List.mem_append_left _ (List.mem_of_getElem? (i := 111) rfl))))) rfl
theorem q_3_112 : Cond.methodLink R_MO 1 (⟨"java/lang/Object", "<init>", "()V"⟩ : MethodName) ∈ fm_T := fm_inT (List.mem_append_right _ (List.mem_append_right _ (List.mem_append_right _ (List.mem_append_left _ (List.mem_of_getElem? (i := 112) rfl))))) rfl
theorem q_3_113 : Cond.fieldLink R_MO 26 "FontMetricsModel" "thrown" "I" ∈ fm_T := fm_inT (List.mem_append_right _ (List.mem_append_right _ (List.mem_append_right _ (List.mem_append_left _ (List.mem_of_getElem? (i := 113) rfl))))) rfl
theorem q_3_114 : Cond.fieldLink R_MO 7 "FontMetricsModel" "file" "[B" ∈ fm_T := fm_inT (List.mem_append_right _ (List.mem_append_right _ (List.mem_append_right _ (List.mem_append_left _ (List.mem_of_getElem? (i := 114) rfl))))) rfl
theorem q_3_115 : Cond.fieldLink R_MO 30 "FontMetricsModel" "fileSize" "I" ∈ fm_T := fm_inT (List.mem_append_right _ (List.mem_append_right _ (List.mem_append_right _ (List.mem_append_left _ (List.mem_of_getElem? (i := 115) rfl))))) rfl
theorem q_3_116 : Cond.fieldLink R_MO 13 "FontMetricsModel" "font" "[B" ∈ fm_T := fm_inT (List.mem_append_right _ (List.mem_append_right _ (List.mem_append_right _ (List.mem_append_left _ (List.mem_of_getElem? (i := 116) rfl))))) rfl
theorem q_3_117 : Cond.fieldLink R_MO 103 "FontMetricsModel" "loaded" "Z" ∈ fm_T := fm_inT (List.mem_append_right _ (List.mem_append_right _ (List.mem_append_right _ (List.mem_append_left _ (List.mem_of_getElem? (i := 117) rfl))))) rfl
theorem q_3_118 : Cond.fieldLink R_MO 107 "FontMetricsModel" "size" "I" ∈ fm_T := fm_inT (List.mem_append_right _ (List.mem_append_right _ (List.mem_append_right _ (List.mem_append_left _ (List.mem_of_getElem? (i := 118) rfl))))) rfl
theorem q_3_119 : Cond.fieldLink R_MO 16 "FontMetricsModel" "row" "[B" ∈ fm_T := fm_inT (List.mem_append_right _ (List.mem_append_right _ (List.mem_append_right _ (List.mem_append_left _ (List.mem_of_getElem? (i := 119) rfl))))) rfl
theorem q_3_120 : Cond.fieldLink R_MO 138 "FontMetricsModel" "rowSize" "I" ∈ fm_T := fm_inT (List.mem_append_right _ (List.mem_append_right _ (List.mem_append_right _ (List.mem_append_left _ (List.mem_of_getElem? (i := 120) rfl))))) rfl
theorem q_3_121 : Cond.fieldLink R_MO 19 "FontMetricsModel" "kinds" "[I" ∈ fm_T := fm_inT (List.mem_append_right _ (List.mem_append_right _ (List.mem_append_right _ (List.mem_append_left _ (List.mem_of_getElem? (i := 121) rfl))))) rfl
theorem q_3_122 : Cond.fieldLink R_MO 23 "FontMetricsModel" "wide" "[I" ∈ fm_T := fm_inT (List.mem_append_right _ (List.mem_append_right _ (List.mem_append_right _ (List.mem_append_left _ (List.mem_of_getElem? (i := 122) rfl))))) rfl
theorem q_3_123 : Cond.fieldLink R_MO 110 "FontMetricsModel" "count" "I" ∈ fm_T := fm_inT (List.mem_append_right _ (List.mem_append_right _ (List.mem_append_right _ (List.mem_append_left _ (List.mem_of_getElem? (i := 123) rfl))))) rfl
theorem q_3_124 : Cond.lays R_MO "FontMetricsModel" "thrown" "I" ∈ fm_T := fm_inT (List.mem_append_right _ (List.mem_append_right _ (List.mem_append_right _ (List.mem_append_left _ (List.mem_of_getElem? (i := 124) rfl))))) rfl
theorem q_3_126 : Cond.laysFinal R_MO "FontMetricsModel" "file" "[B" ∈ fm_T := fm_inT (List.mem_append_right _ (List.mem_append_right _ (List.mem_append_right _ (List.mem_append_left _ (List.mem_of_getElem? (i := 126) rfl))))) rfl
theorem q_3_128 : Cond.lays R_MO "FontMetricsModel" "fileSize" "I" ∈ fm_T := fm_inT (List.mem_append_right _ (List.mem_append_right _ (List.mem_append_right _ (List.mem_append_left _ (List.mem_of_getElem? (i := 128) rfl))))) rfl
theorem q_3_130 : Cond.laysFinal R_MO "FontMetricsModel" "font" "[B" ∈ fm_T := fm_inT (List.mem_append_right _ (List.mem_append_right _ (List.mem_append_right _ (List.mem_append_left _ (List.mem_of_getElem? (i := 130) rfl))))) rfl
theorem q_3_132 : Cond.lays R_MO "FontMetricsModel" "loaded" "Z" ∈ fm_T := fm_inT (List.mem_append_right _ (List.mem_append_right _ (List.mem_append_right _ (List.mem_append_left _ (List.mem_of_getElem? (i := 132) rfl))))) rfl
theorem q_3_134 : Cond.lays R_MO "FontMetricsModel" "size" "I" ∈ fm_T := fm_inT (List.mem_append_right _ (List.mem_append_right _ (List.mem_append_right _ (List.mem_append_left _ (List.mem_of_getElem? (i := 134) rfl))))) rfl
theorem q_3_136 : Cond.laysFinal R_MO "FontMetricsModel" "row" "[B" ∈ fm_T := fm_inT (List.mem_append_right _ (List.mem_append_right _ (List.mem_append_right _ (List.mem_append_left _ (List.mem_of_getElem? (i := 136) rfl))))) rfl
theorem q_3_138 : Cond.lays R_MO "FontMetricsModel" "rowSize" "I" ∈ fm_T := fm_inT (List.mem_append_right _ (List.mem_append_right _ (List.mem_append_right _ (List.mem_append_left _ (List.mem_of_getElem? (i := 138) rfl))))) rfl
theorem q_3_140 : Cond.laysFinal R_MO "FontMetricsModel" "kinds" "[I" ∈ fm_T := fm_inT (List.mem_append_right _ (List.mem_append_right _ (List.mem_append_right _ (List.mem_append_left _ (List.mem_of_getElem? (i := 140) rfl))))) rfl
theorem q_3_142 : Cond.laysFinal R_MO "FontMetricsModel" "wide" "[I" ∈ fm_T := fm_inT (List.mem_append_right _ (List.mem_append_right _ (List.mem_append_right _ (List.mem_append_left _ (List.mem_of_getElem? (i := 142) rfl))))) rfl
theorem q_3_144 : Cond.lays R_MO "FontMetricsModel" "count" "I" ∈ fm_T := fm_inT (List.mem_append_right _ (List.mem_append_right _ (List.mem_append_right _ (List.mem_append_left _ (List.mem_of_getElem? (i := 144) rfl))))) rfl
theorem q_3_147 : Cond.methodLink R_LW 67 y_MO_thrown ∈ fm_T := fm_inT (List.mem_append_right _ (List.mem_append_right _ (List.mem_append_right _ (List.mem_append_left _ (List.mem_of_getElem? (i := 147) rfl))))) rfl
theorem q_3_148 : Cond.instanceMethod y_MO_thrown ∈ fm_T := fm_inT (List.mem_append_right _ (List.mem_append_right _ (List.mem_append_right _ (List.mem_append_left _ (List.mem_of_getElem? (i := 148) rfl))))) rfl
theorem q_3_149 : Cond.selects R_MO y_MO_thrown y_MO_thrown ∈ fm_T := fm_inT (List.mem_append_right _ (List.mem_append_right _ (List.mem_append_right _ (List.mem_append_left _ (List.mem_of_getElem? (i := 149) rfl))))) rfl
theorem q_3_150 : Cond.code y_MO_thrown prog_7_method_2_code 1 (some .int) ∈ fm_T := fm_inT (List.mem_append_right _ (List.mem_append_right _ (List.mem_append_right _ (List.mem_append_left _ (List.mem_of_getElem? (i := 150) rfl))))) rfl
theorem q_3_151 : Cond.methodLink R_LW 56 y_MO_feed ∈ fm_T := fm_inT (List.mem_append_right _ (List.mem_append_right _ (List.mem_append_right _ (List.mem_append_left _ (List.mem_of_getElem? (i := 151) rfl))))) rfl
theorem q_3_152 : Cond.instanceMethod y_MO_feed ∈ fm_T := fm_inT (List.mem_append_right _ (List.mem_append_right _ (List.mem_append_right _ (List.mem_append_left _ (List.mem_of_getElem? (i := 152) rfl))))) rfl
theorem q_3_153 : Cond.selects R_MO y_MO_feed y_MO_feed ∈ fm_T := fm_inT (List.mem_append_right _ (List.mem_append_right _ (List.mem_append_right _ (List.mem_append_left _ (List.mem_of_getElem? (i := 153) rfl))))) rfl
theorem q_3_154 : Cond.code y_MO_feed prog_7_method_3_code 5 (some .boolean) ∈ fm_T := fm_inT (List.mem_append_right _ (List.mem_append_right _ (List.mem_append_right _ (List.mem_append_left _ (List.mem_of_getElem? (i := 154) rfl))))) rfl
theorem q_3_155 : Cond.methodLink R_LW 60 y_MO_keep ∈ fm_T := fm_inT (List.mem_append_right _ (List.mem_append_right _ (List.mem_append_right _ (List.mem_append_left _ (List.mem_of_getElem? (i := 155) rfl))))) rfl
theorem q_3_156 : Cond.instanceMethod y_MO_keep ∈ fm_T := fm_inT (List.mem_append_right _ (List.mem_append_right _ (List.mem_append_right _ (List.mem_append_left _ (List.mem_of_getElem? (i := 156) rfl))))) rfl
theorem q_3_157 : Cond.selects R_MO y_MO_keep y_MO_keep ∈ fm_T := fm_inT (List.mem_append_right _ (List.mem_append_right _ (List.mem_append_right _ (List.mem_append_left _ (List.mem_of_getElem? (i := 157) rfl))))) rfl
theorem q_3_158 : Cond.code y_MO_keep prog_7_method_4_code 2 (some .boolean) ∈ fm_T := fm_inT (List.mem_append_right _ (List.mem_append_right _ (List.mem_append_right _ (List.mem_append_left _ (List.mem_of_getElem? (i := 158) rfl))))) rfl
theorem q_3_159 : Cond.methodLink R_LW 66 y_MO_load ∈ fm_T := fm_inT (List.mem_append_right _ (List.mem_append_right _ (List.mem_append_right _ (List.mem_append_left _ (List.mem_of_getElem? (i := 159) rfl))))) rfl
theorem q_3_160 : Cond.instanceMethod y_MO_load ∈ fm_T := fm_inT (List.mem_append_right _ (List.mem_append_right _ (List.mem_append_right _ (List.mem_append_left _ (List.mem_of_getElem? (i := 160) rfl))))) rfl
theorem q_3_161 : Cond.selects R_MO y_MO_load y_MO_load ∈ fm_T := fm_inT (List.mem_append_right _ (List.mem_append_right _ (List.mem_append_right _ (List.mem_append_left _ (List.mem_of_getElem? (i := 161) rfl))))) rfl
theorem q_3_162 : Cond.code y_MO_load prog_7_method_26_code 4 (some .int) ∈ fm_T := fm_inT (List.mem_append_right _ (List.mem_append_right _ (List.mem_append_right _ (List.mem_append_left _ (List.mem_of_getElem? (i := 162) rfl))))) rfl
theorem q_3_163 : Cond.constant R_MO 98 134217727 ∈ fm_T := fm_inT (List.mem_append_right _ (List.mem_append_right _ (List.mem_append_right _ (List.mem_append_left _ (List.mem_of_getElem? (i := 163) rfl))))) rfl
theorem q_3_164 : Cond.methodLink R_MO 99 y_MO_fault ∈ fm_T := fm_inT (List.mem_append_right _ (List.mem_append_right _ (List.mem_append_right _ (List.mem_append_left _ (List.mem_of_getElem? (i := 164) rfl))))) rfl
theorem q_3_166 : Cond.instanceMethod y_MO_fault ∈ fm_T := fm_inT (List.mem_append_right _ (List.mem_append_right _ (List.mem_append_right _ (List.mem_append_left _ (List.mem_of_getElem? (i := 166) rfl))))) rfl
theorem q_3_167 : Cond.code y_MO_fault prog_7_method_25_code 4 (some .int) ∈ fm_T := fm_inT (List.mem_append_right _ (List.mem_append_right _ (List.mem_append_right _ (List.mem_append_left _ (List.mem_of_getElem? (i := 167) rfl))))) rfl
theorem q_3_168 : Cond.methodLink R_MO 74 y_MO_areNumbersSmall ∈ fm_T := fm_inT (List.mem_append_right _ (List.mem_append_right _ (List.mem_append_right _ (List.mem_append_left _ (List.mem_of_getElem? (i := 168) rfl))))) rfl
theorem q_3_170 : Cond.instanceMethod y_MO_areNumbersSmall ∈ fm_T := fm_inT (List.mem_append_right _ (List.mem_append_right _ (List.mem_append_right _ (List.mem_append_left _ (List.mem_of_getElem? (i := 170) rfl))))) rfl
theorem q_3_171 : Cond.code y_MO_areNumbersSmall prog_7_method_15_code 3 (some .boolean) ∈ fm_T := fm_inT (List.mem_append_right _ (List.mem_append_right _ (List.mem_append_right _ (List.mem_append_left _ (List.mem_of_getElem? (i := 171) rfl))))) rfl
theorem q_3_172 : Cond.methodLink R_MO 33 y_MO_half ∈ fm_T := fm_inT (List.mem_append_right _ (List.mem_append_right _ (List.mem_append_right _ (List.mem_append_left _ (List.mem_of_getElem? (i := 172) rfl))))) rfl
theorem q_3_173 : Cond.static y_MO_half ∈ fm_T := fm_inT (List.mem_append_right _ (List.mem_append_right _ (List.mem_append_right _ (List.mem_append_left _ (List.mem_of_getElem? (i := 173) rfl))))) rfl
theorem q_3_174 : Cond.code y_MO_half prog_7_method_5_code 2 (some .int) ∈ fm_T := fm_inT (List.mem_append_right _ (List.mem_append_right _ (List.mem_append_right _ (List.mem_append_left _ (List.mem_of_getElem? (i := 174) rfl))))) rfl
theorem q_3_175 : Cond.methodLink R_MO 37 y_MO_words ∈ fm_T := fm_inT (List.mem_append_right _ (List.mem_append_right _ (List.mem_append_right _ (List.mem_append_left _ (List.mem_of_getElem? (i := 175) rfl))))) rfl
theorem q_3_176 : Cond.static y_MO_words ∈ fm_T := fm_inT (List.mem_append_right _ (List.mem_append_right _ (List.mem_append_right _ (List.mem_append_left _ (List.mem_of_getElem? (i := 176) rfl))))) rfl
theorem q_3_177 : Cond.code y_MO_words prog_7_method_6_code 2 (some .int) ∈ fm_T := fm_inT (List.mem_append_right _ (List.mem_append_right _ (List.mem_append_right _ (List.mem_append_left _ (List.mem_of_getElem? (i := 177) rfl))))) rfl
theorem q_3_178 : Cond.methodLink R_MO 40 y_MO_start ∈ fm_T := fm_inT (List.mem_append_right _ (List.mem_append_right _ (List.mem_append_right _ (List.mem_append_left _ (List.mem_of_getElem? (i := 178) rfl))))) rfl
theorem q_3_179 : Cond.static y_MO_start ∈ fm_T := fm_inT (List.mem_append_right _ (List.mem_append_right _ (List.mem_append_right _ (List.mem_append_left _ (List.mem_of_getElem? (i := 179) rfl))))) rfl
theorem q_3_180 : Cond.code y_MO_start prog_7_method_7_code 4 (some .int) ∈ fm_T := fm_inT (List.mem_append_right _ (List.mem_append_right _ (List.mem_append_right _ (List.mem_append_left _ (List.mem_of_getElem? (i := 180) rfl))))) rfl
theorem q_3_181 : Cond.methodLink R_MO 78 y_MO_designOf ∈ fm_T := fm_inT (List.mem_append_right _ (List.mem_append_right _ (List.mem_append_right _ (List.mem_append_left _ (List.mem_of_getElem? (i := 181) rfl))))) rfl
theorem q_3_182 : Cond.static y_MO_designOf ∈ fm_T := fm_inT (List.mem_append_right _ (List.mem_append_right _ (List.mem_append_right _ (List.mem_append_left _ (List.mem_of_getElem? (i := 182) rfl))))) rfl
theorem q_3_183 : Cond.code y_MO_designOf prog_7_method_24_code 3 (some .int) ∈ fm_T := fm_inT (List.mem_append_right _ (List.mem_append_right _ (List.mem_append_right _ (List.mem_append_left _ (List.mem_of_getElem? (i := 183) rfl))))) rfl
theorem q_3_184 : Cond.methodLink R_MO 43 y_MO_at ∈ fm_T := fm_inT (List.mem_append_right _ (List.mem_append_right _ (List.mem_append_right _ (List.mem_append_left _ (List.mem_of_getElem? (i := 184) rfl))))) rfl
theorem q_3_185 : Cond.static y_MO_at ∈ fm_T := fm_inT (List.mem_append_right _ (List.mem_append_right _ (List.mem_append_right _ (List.mem_append_left _ (List.mem_of_getElem? (i := 185) rfl))))) rfl
theorem q_3_186 : Cond.code y_MO_at prog_7_method_8_code 4 (some .int) ∈ fm_T := fm_inT (List.mem_append_right _ (List.mem_append_right _ (List.mem_append_right _ (List.mem_append_left _ (List.mem_of_getElem? (i := 186) rfl))))) rfl
theorem q_3_187 : Cond.constant R_MO 81 1048576 ∈ fm_T := fm_inT (List.mem_append_right _ (List.mem_append_right _ (List.mem_append_right _ (List.mem_append_left _ (List.mem_of_getElem? (i := 187) rfl))))) rfl
theorem q_3_188 : Cond.methodLink R_MO 82 y_MO_areSizesRight ∈ fm_T := fm_inT (List.mem_append_right _ (List.mem_append_right _ (List.mem_append_right _ (List.mem_append_left _ (List.mem_of_getElem? (i := 188) rfl))))) rfl
theorem q_3_189 : Cond.static y_MO_areSizesRight ∈ fm_T := fm_inT (List.mem_append_right _ (List.mem_append_right _ (List.mem_append_right _ (List.mem_append_left _ (List.mem_of_getElem? (i := 189) rfl))))) rfl
theorem q_3_190 : Cond.code y_MO_areSizesRight prog_7_method_16_code 3 (some .boolean) ∈ fm_T := fm_inT (List.mem_append_right _ (List.mem_append_right _ (List.mem_append_right _ (List.mem_append_left _ (List.mem_of_getElem? (i := 190) rfl))))) rfl
theorem q_3_191 : Cond.methodLink R_MO 86 y_MO_areTagsRight ∈ fm_T := fm_inT (List.mem_append_right _ (List.mem_append_right _ (List.mem_append_right _ (List.mem_append_left _ (List.mem_of_getElem? (i := 191) rfl))))) rfl
theorem q_3_192 : Cond.static y_MO_areTagsRight ∈ fm_T := fm_inT (List.mem_append_right _ (List.mem_append_right _ (List.mem_append_right _ (List.mem_append_left _ (List.mem_of_getElem? (i := 192) rfl))))) rfl
theorem q_3_193 : Cond.code y_MO_areTagsRight prog_7_method_18_code 4 (some .boolean) ∈ fm_T := fm_inT (List.mem_append_right _ (List.mem_append_right _ (List.mem_append_right _ (List.mem_append_left _ (List.mem_of_getElem? (i := 193) rfl))))) rfl
theorem q_3_194 : Cond.methodLink R_MO 53 y_MO_isThere ∈ fm_T := fm_inT (List.mem_append_right _ (List.mem_append_right _ (List.mem_append_right _ (List.mem_append_left _ (List.mem_of_getElem? (i := 194) rfl))))) rfl
theorem q_3_195 : Cond.static y_MO_isThere ∈ fm_T := fm_inT (List.mem_append_right _ (List.mem_append_right _ (List.mem_append_right _ (List.mem_append_left _ (List.mem_of_getElem? (i := 195) rfl))))) rfl
theorem q_3_196 : Cond.code y_MO_isThere prog_7_method_10_code 2 (some .boolean) ∈ fm_T := fm_inT (List.mem_append_right _ (List.mem_append_right _ (List.mem_append_right _ (List.mem_append_left _ (List.mem_of_getElem? (i := 196) rfl))))) rfl
theorem q_3_197 : Cond.methodLink R_MO 57 y_MO_tag ∈ fm_T := fm_inT (List.mem_append_right _ (List.mem_append_right _ (List.mem_append_right _ (List.mem_append_left _ (List.mem_of_getElem? (i := 197) rfl))))) rfl
theorem q_3_198 : Cond.static y_MO_tag ∈ fm_T := fm_inT (List.mem_append_right _ (List.mem_append_right _ (List.mem_append_right _ (List.mem_append_left _ (List.mem_of_getElem? (i := 198) rfl))))) rfl
theorem q_3_199 : Cond.code y_MO_tag prog_7_method_11_code 2 (some .int) ∈ fm_T := fm_inT (List.mem_append_right _ (List.mem_append_right _ (List.mem_append_right _ (List.mem_append_left _ (List.mem_of_getElem? (i := 199) rfl))))) rfl
theorem q_3_200 : Cond.methodLink R_MO 50 y_MO_rest ∈ fm_T := fm_inT (List.mem_append_right _ (List.mem_append_right _ (List.mem_append_right _ (List.mem_append_left _ (List.mem_of_getElem? (i := 200) rfl))))) rfl
theorem q_3_201 : Cond.static y_MO_rest ∈ fm_T := fm_inT (List.mem_append_right _ (List.mem_append_right _ (List.mem_append_right _ (List.mem_append_left _ (List.mem_of_getElem? (i := 201) rfl))))) rfl
theorem q_3_202 : Cond.code y_MO_rest prog_7_method_12_code 2 (some .int) ∈ fm_T := fm_inT (List.mem_append_right _ (List.mem_append_right _ (List.mem_append_right _ (List.mem_append_left _ (List.mem_of_getElem? (i := 202) rfl))))) rfl
theorem q_3_203 : Cond.methodLink R_MO 60 y_MO_isLargerRight ∈ fm_T := fm_inT (List.mem_append_right _ (List.mem_append_right _ (List.mem_append_right _ (List.mem_append_left _ (List.mem_of_getElem? (i := 203) rfl))))) rfl
theorem q_3_204 : Cond.static y_MO_isLargerRight ∈ fm_T := fm_inT (List.mem_append_right _ (List.mem_append_right _ (List.mem_append_right _ (List.mem_append_left _ (List.mem_of_getElem? (i := 204) rfl))))) rfl
theorem q_3_205 : Cond.code y_MO_isLargerRight prog_7_method_17_code 4 (some .boolean) ∈ fm_T := fm_inT (List.mem_append_right _ (List.mem_append_right _ (List.mem_append_right _ (List.mem_append_left _ (List.mem_of_getElem? (i := 205) rfl))))) rfl
theorem q_3_206 : Cond.methodLink R_MO 89 y_MO_areTablesRight ∈ fm_T := fm_inT (List.mem_append_right _ (List.mem_append_right _ (List.mem_append_right _ (List.mem_append_left _ (List.mem_of_getElem? (i := 206) rfl))))) rfl
theorem q_3_207 : Cond.static y_MO_areTablesRight ∈ fm_T := fm_inT (List.mem_append_right _ (List.mem_append_right _ (List.mem_append_right _ (List.mem_append_left _ (List.mem_of_getElem? (i := 207) rfl))))) rfl
theorem q_3_208 : Cond.code y_MO_areTablesRight prog_7_method_20_code 4 (some .boolean) ∈ fm_T := fm_inT (List.mem_append_right _ (List.mem_append_right _ (List.mem_append_right _ (List.mem_append_left _ (List.mem_of_getElem? (i := 208) rfl))))) rfl
theorem q_3_209 : Cond.methodLink R_MO 63 y_MO_areFractions ∈ fm_T := fm_inT (List.mem_append_right _ (List.mem_append_right _ (List.mem_append_right _ (List.mem_append_left _ (List.mem_of_getElem? (i := 209) rfl))))) rfl
theorem q_3_210 : Cond.static y_MO_areFractions ∈ fm_T := fm_inT (List.mem_append_right _ (List.mem_append_right _ (List.mem_append_right _ (List.mem_append_left _ (List.mem_of_getElem? (i := 210) rfl))))) rfl
theorem q_3_211 : Cond.code y_MO_areFractions prog_7_method_19_code 5 (some .boolean) ∈ fm_T := fm_inT (List.mem_append_right _ (List.mem_append_right _ (List.mem_append_right _ (List.mem_append_left _ (List.mem_of_getElem? (i := 211) rfl))))) rfl
theorem q_3_212 : Cond.methodLink R_MO 92 y_MO_isProgramRight ∈ fm_T := fm_inT (List.mem_append_right _ (List.mem_append_right _ (List.mem_append_right _ (List.mem_append_left _ (List.mem_of_getElem? (i := 212) rfl))))) rfl
theorem q_3_213 : Cond.static y_MO_isProgramRight ∈ fm_T := fm_inT (List.mem_append_right _ (List.mem_append_right _ (List.mem_append_right _ (List.mem_append_left _ (List.mem_of_getElem? (i := 213) rfl))))) rfl
theorem q_3_214 : Cond.code y_MO_isProgramRight prog_7_method_22_code 3 (some .boolean) ∈ fm_T := fm_inT (List.mem_append_right _ (List.mem_append_right _ (List.mem_append_right _ (List.mem_append_left _ (List.mem_of_getElem? (i := 214) rfl))))) rfl
theorem q_3_215 : Cond.methodLink R_MO 71 y_MO_isWordRight ∈ fm_T := fm_inT (List.mem_append_right _ (List.mem_append_right _ (List.mem_append_right _ (List.mem_append_left _ (List.mem_of_getElem? (i := 215) rfl))))) rfl
theorem q_3_216 : Cond.static y_MO_isWordRight ∈ fm_T := fm_inT (List.mem_append_right _ (List.mem_append_right _ (List.mem_append_right _ (List.mem_append_left _ (List.mem_of_getElem? (i := 216) rfl))))) rfl
theorem q_3_217 : Cond.code y_MO_isWordRight prog_7_method_21_code 7 (some .boolean) ∈ fm_T := fm_inT (List.mem_append_right _ (List.mem_append_right _ (List.mem_append_right _ (List.mem_append_left _ (List.mem_of_getElem? (i := 217) rfl))))) rfl
theorem q_3_218 : Cond.methodLink R_MO 47 y_MO_far ∈ fm_T := fm_inT (List.mem_append_right _ (List.mem_append_right _ (List.mem_append_right _ (List.mem_append_left _ (List.mem_of_getElem? (i := 218) rfl))))) rfl
theorem q_3_219 : Cond.static y_MO_far ∈ fm_T := fm_inT (List.mem_append_right _ (List.mem_append_right _ (List.mem_append_right _ (List.mem_append_left _ (List.mem_of_getElem? (i := 219) rfl))))) rfl
theorem q_3_220 : Cond.code y_MO_far prog_7_method_9_code 2 (some .int) ∈ fm_T := fm_inT (List.mem_append_right _ (List.mem_append_right _ (List.mem_append_right _ (List.mem_append_left _ (List.mem_of_getElem? (i := 220) rfl))))) rfl
theorem q_3_221 : Cond.methodLink R_MO 67 y_MO_edgeOf ∈ fm_T := fm_inT (List.mem_append_right _ (List.mem_append_right _ (List.mem_append_right _ (List.mem_append_left _ (List.mem_of_getElem? (i := 221) rfl))))) rfl
theorem q_3_222 : Cond.static y_MO_edgeOf ∈ fm_T := fm_inT (List.mem_append_right _ (List.mem_append_right _ (List.mem_append_right _ (List.mem_append_left _ (List.mem_of_getElem? (i := 222) rfl))))) rfl
theorem q_3_223 : Cond.code y_MO_edgeOf prog_7_method_13_code 1 (some .int) ∈ fm_T := fm_inT (List.mem_append_right _ (List.mem_append_right _ (List.mem_append_right _ (List.mem_append_left _ (List.mem_of_getElem? (i := 223) rfl))))) rfl
theorem q_3_224 : Cond.methodLink R_MO 95 y_MO_areRecipesRight ∈ fm_T := fm_inT (List.mem_append_right _ (List.mem_append_right _ (List.mem_append_right _ (List.mem_append_left _ (List.mem_of_getElem? (i := 224) rfl))))) rfl
theorem q_3_225 : Cond.static y_MO_areRecipesRight ∈ fm_T := fm_inT (List.mem_append_right _ (List.mem_append_right _ (List.mem_append_right _ (List.mem_append_left _ (List.mem_of_getElem? (i := 225) rfl))))) rfl
theorem q_3_226 : Cond.code y_MO_areRecipesRight prog_7_method_23_code 4 (some .boolean) ∈ fm_T := fm_inT (List.mem_append_right _ (List.mem_append_right _ (List.mem_append_right _ (List.mem_append_left _ (List.mem_of_getElem? (i := 226) rfl))))) rfl
theorem q_3_227 : Cond.methodLink R_LW 72 y_MO_about ∈ fm_T := fm_inT (List.mem_append_right _ (List.mem_append_right _ (List.mem_append_right _ (List.mem_append_left _ (List.mem_of_getElem? (i := 227) rfl))))) rfl
theorem q_3_228 : Cond.instanceMethod y_MO_about ∈ fm_T := fm_inT (List.mem_append_right _ (List.mem_append_right _ (List.mem_append_right _ (List.mem_append_left _ (List.mem_of_getElem? (i := 228) rfl))))) rfl
theorem q_3_229 : Cond.selects R_MO y_MO_about y_MO_about ∈ fm_T := fm_inT (List.mem_append_right _ (List.mem_append_right _ (List.mem_append_right _ (List.mem_append_left _ (List.mem_of_getElem? (i := 229) rfl))))) rfl
theorem q_3_230 : Cond.code y_MO_about prog_7_method_28_code 2 (some .int) ∈ fm_T := fm_inT (List.mem_append_right _ (List.mem_append_right _ (List.mem_append_right _ (List.mem_append_left _ (List.mem_of_getElem? (i := 230) rfl))))) rfl
theorem q_3_231 : Cond.methodLink R_MO 121 y_MO_edgeProgram ∈ fm_T := fm_inT (List.mem_append_right _ (List.mem_append_right _ (List.mem_append_right _ (List.mem_append_left _ (List.mem_of_getElem? (i := 231) rfl))))) rfl
theorem q_3_232 : Cond.static y_MO_edgeProgram ∈ fm_T := fm_inT (List.mem_append_right _ (List.mem_append_right _ (List.mem_append_right _ (List.mem_append_left _ (List.mem_of_getElem? (i := 232) rfl))))) rfl
theorem q_3_233 : Cond.code y_MO_edgeProgram prog_7_method_14_code 2 (some .int) ∈ fm_T := fm_inT (List.mem_append_right _ (List.mem_append_right _ (List.mem_append_right _ (List.mem_append_left _ (List.mem_of_getElem? (i := 233) rfl))))) rfl
theorem q_3_234 : Cond.methodLink R_LW 76 y_MO_has ∈ fm_T := fm_inT (List.mem_append_right _ (List.mem_append_right _ (List.mem_append_right _ (List.mem_append_left _ (List.mem_of_getElem? (i := 234) rfl))))) rfl
theorem q_3_235 : Cond.instanceMethod y_MO_has ∈ fm_T := fm_inT (List.mem_append_right _ (List.mem_append_right _ (List.mem_append_right _ (List.mem_append_left _ (List.mem_of_getElem? (i := 235) rfl))))) rfl
theorem q_3_236 : Cond.selects R_MO y_MO_has y_MO_has ∈ fm_T := fm_inT (List.mem_append_right _ (List.mem_append_right _ (List.mem_append_right _ (List.mem_append_left _ (List.mem_of_getElem? (i := 236) rfl))))) rfl
theorem q_3_237 : Cond.code y_MO_has prog_7_method_29_code 2 (some .boolean) ∈ fm_T := fm_inT (List.mem_append_right _ (List.mem_append_right _ (List.mem_append_right _ (List.mem_append_left _ (List.mem_of_getElem? (i := 237) rfl))))) rfl
theorem q_3_238 : Cond.methodLink R_LW 80 y_MO_of ∈ fm_T := fm_inT (List.mem_append_right _ (List.mem_append_right _ (List.mem_append_right _ (List.mem_append_left _ (List.mem_of_getElem? (i := 238) rfl))))) rfl
theorem q_3_239 : Cond.instanceMethod y_MO_of ∈ fm_T := fm_inT (List.mem_append_right _ (List.mem_append_right _ (List.mem_append_right _ (List.mem_append_left _ (List.mem_of_getElem? (i := 239) rfl))))) rfl
theorem q_4_0 : Cond.selects R_MO y_MO_of y_MO_of ∈ fm_T := fm_inT (List.mem_append_right _ (List.mem_append_right _ (List.mem_append_right _ (List.mem_append_right _ (List.mem_of_getElem? (i := 0) rfl))))) rfl
theorem q_4_1 : Cond.code y_MO_of prog_7_method_31_code 3 (some .int) ∈ fm_T := fm_inT (List.mem_append_right _ (List.mem_append_right _ (List.mem_append_right _ (List.mem_append_right _ (List.mem_of_getElem? (i := 1) rfl))))) rfl
theorem q_4_2 : Cond.methodLink R_MO 128 y_MO_sizeOf ∈ fm_T := fm_inT (List.mem_append_right _ (List.mem_append_right _ (List.mem_append_right _ (List.mem_append_right _ (List.mem_of_getElem? (i := 2) rfl))))) rfl
theorem q_4_4 : Cond.instanceMethod y_MO_sizeOf ∈ fm_T := fm_inT (List.mem_append_right _ (List.mem_append_right _ (List.mem_append_right _ (List.mem_append_right _ (List.mem_of_getElem? (i := 4) rfl))))) rfl
theorem q_4_5 : Cond.code y_MO_sizeOf prog_7_method_30_code 5 (some .int) ∈ fm_T := fm_inT (List.mem_append_right _ (List.mem_append_right _ (List.mem_append_right _ (List.mem_append_right _ (List.mem_of_getElem? (i := 5) rfl))))) rfl
theorem q_4_6 : Cond.methodLink R_MO 124 y_MO_scaled ∈ fm_T := fm_inT (List.mem_append_right _ (List.mem_append_right _ (List.mem_append_right _ (List.mem_append_right _ (List.mem_of_getElem? (i := 6) rfl))))) rfl
theorem q_4_8 : Cond.instanceMethod y_MO_scaled ∈ fm_T := fm_inT (List.mem_append_right _ (List.mem_append_right _ (List.mem_append_right _ (List.mem_append_right _ (List.mem_of_getElem? (i := 8) rfl))))) rfl
theorem q_4_9 : Cond.code y_MO_scaled prog_7_method_27_code 10 (some .int) ∈ fm_T := fm_inT (List.mem_append_right _ (List.mem_append_right _ (List.mem_append_right _ (List.mem_append_right _ (List.mem_of_getElem? (i := 9) rfl))))) rfl
theorem q_4_10 : Cond.constantLong R_MO 113 8388608 ∈ fm_T := fm_inT (List.mem_append_right _ (List.mem_append_right _ (List.mem_append_right _ (List.mem_append_right _ (List.mem_of_getElem? (i := 10) rfl))))) rfl
theorem q_4_11 : Cond.constantLong R_MO 115 2 ∈ fm_T := fm_inT (List.mem_append_right _ (List.mem_append_right _ (List.mem_append_right _ (List.mem_append_right _ (List.mem_of_getElem? (i := 11) rfl))))) rfl
theorem q_4_12 : Cond.constantLong R_MO 117 65536 ∈ fm_T := fm_inT (List.mem_append_right _ (List.mem_append_right _ (List.mem_append_right _ (List.mem_append_right _ (List.mem_of_getElem? (i := 12) rfl))))) rfl
theorem q_4_13 : Cond.constantLong R_MO 119 256 ∈ fm_T := fm_inT (List.mem_append_right _ (List.mem_append_right _ (List.mem_append_right _ (List.mem_append_right _ (List.mem_of_getElem? (i := 13) rfl))))) rfl
theorem q_4_14 : Cond.methodLink R_LW 83 y_MO_part ∈ fm_T := fm_inT (List.mem_append_right _ (List.mem_append_right _ (List.mem_append_right _ (List.mem_append_right _ (List.mem_of_getElem? (i := 14) rfl))))) rfl
theorem q_4_15 : Cond.instanceMethod y_MO_part ∈ fm_T := fm_inT (List.mem_append_right _ (List.mem_append_right _ (List.mem_append_right _ (List.mem_append_right _ (List.mem_of_getElem? (i := 15) rfl))))) rfl
theorem q_4_16 : Cond.selects R_MO y_MO_part y_MO_part ∈ fm_T := fm_inT (List.mem_append_right _ (List.mem_append_right _ (List.mem_append_right _ (List.mem_append_right _ (List.mem_of_getElem? (i := 16) rfl))))) rfl
theorem q_4_17 : Cond.code y_MO_part prog_7_method_32_code 3 (some .int) ∈ fm_T := fm_inT (List.mem_append_right _ (List.mem_append_right _ (List.mem_append_right _ (List.mem_append_right _ (List.mem_of_getElem? (i := 17) rfl))))) rfl
theorem q_4_18 : Cond.methodLink R_LW 86 y_MO_parameter ∈ fm_T := fm_inT (List.mem_append_right _ (List.mem_append_right _ (List.mem_append_right _ (List.mem_append_right _ (List.mem_of_getElem? (i := 18) rfl))))) rfl
theorem q_4_19 : Cond.instanceMethod y_MO_parameter ∈ fm_T := fm_inT (List.mem_append_right _ (List.mem_append_right _ (List.mem_append_right _ (List.mem_append_right _ (List.mem_of_getElem? (i := 19) rfl))))) rfl
theorem q_4_20 : Cond.selects R_MO y_MO_parameter y_MO_parameter ∈ fm_T := fm_inT (List.mem_append_right _ (List.mem_append_right _ (List.mem_append_right _ (List.mem_append_right _ (List.mem_of_getElem? (i := 20) rfl))))) rfl
theorem q_4_21 : Cond.code y_MO_parameter prog_7_method_33_code 4 (some .int) ∈ fm_T := fm_inT (List.mem_append_right _ (List.mem_append_right _ (List.mem_append_right _ (List.mem_append_right _ (List.mem_of_getElem? (i := 21) rfl))))) rfl
theorem q_4_22 : Cond.methodLink R_LW 89 y_MO_ask ∈ fm_T := fm_inT (List.mem_append_right _ (List.mem_append_right _ (List.mem_append_right _ (List.mem_append_right _ (List.mem_of_getElem? (i := 22) rfl))))) rfl
theorem q_4_23 : Cond.instanceMethod y_MO_ask ∈ fm_T := fm_inT (List.mem_append_right _ (List.mem_append_right _ (List.mem_append_right _ (List.mem_append_right _ (List.mem_of_getElem? (i := 23) rfl))))) rfl
theorem q_4_24 : Cond.selects R_MO y_MO_ask y_MO_ask ∈ fm_T := fm_inT (List.mem_append_right _ (List.mem_append_right _ (List.mem_append_right _ (List.mem_append_right _ (List.mem_of_getElem? (i := 24) rfl))))) rfl
theorem q_4_25 : Cond.code y_MO_ask prog_7_method_36_code 4 (some .int) ∈ fm_T := fm_inT (List.mem_append_right _ (List.mem_append_right _ (List.mem_append_right _ (List.mem_append_right _ (List.mem_of_getElem? (i := 25) rfl))))) rfl
theorem q_4_26 : Cond.methodLink R_MO 131 y_MO_mayAsk ∈ fm_T := fm_inT (List.mem_append_right _ (List.mem_append_right _ (List.mem_append_right _ (List.mem_append_right _ (List.mem_of_getElem? (i := 26) rfl))))) rfl
theorem q_4_28 : Cond.instanceMethod y_MO_mayAsk ∈ fm_T := fm_inT (List.mem_append_right _ (List.mem_append_right _ (List.mem_append_right _ (List.mem_append_right _ (List.mem_of_getElem? (i := 28) rfl))))) rfl
theorem q_4_29 : Cond.code y_MO_mayAsk prog_7_method_35_code 2 (some .boolean) ∈ fm_T := fm_inT (List.mem_append_right _ (List.mem_append_right _ (List.mem_append_right _ (List.mem_append_right _ (List.mem_of_getElem? (i := 29) rfl))))) rfl
theorem q_4_30 : Cond.methodLink R_MO 135 y_MO_found ∈ fm_T := fm_inT (List.mem_append_right _ (List.mem_append_right _ (List.mem_append_right _ (List.mem_append_right _ (List.mem_of_getElem? (i := 30) rfl))))) rfl
theorem q_4_32 : Cond.instanceMethod y_MO_found ∈ fm_T := fm_inT (List.mem_append_right _ (List.mem_append_right _ (List.mem_append_right _ (List.mem_append_right _ (List.mem_of_getElem? (i := 32) rfl))))) rfl
theorem q_4_33 : Cond.code y_MO_found prog_7_method_34_code 5 (some .int) ∈ fm_T := fm_inT (List.mem_append_right _ (List.mem_append_right _ (List.mem_append_right _ (List.mem_append_right _ (List.mem_of_getElem? (i := 33) rfl))))) rfl
theorem q_4_34 : Cond.methodLink R_LW 93 y_MO_add ∈ fm_T := fm_inT (List.mem_append_right _ (List.mem_append_right _ (List.mem_append_right _ (List.mem_append_right _ (List.mem_of_getElem? (i := 34) rfl))))) rfl
theorem q_4_35 : Cond.instanceMethod y_MO_add ∈ fm_T := fm_inT (List.mem_append_right _ (List.mem_append_right _ (List.mem_append_right _ (List.mem_append_right _ (List.mem_of_getElem? (i := 35) rfl))))) rfl
theorem q_4_36 : Cond.selects R_MO y_MO_add y_MO_add ∈ fm_T := fm_inT (List.mem_append_right _ (List.mem_append_right _ (List.mem_append_right _ (List.mem_append_right _ (List.mem_of_getElem? (i := 36) rfl))))) rfl
theorem q_4_37 : Cond.code y_MO_add prog_7_method_37_code 2 (some .boolean) ∈ fm_T := fm_inT (List.mem_append_right _ (List.mem_append_right _ (List.mem_append_right _ (List.mem_append_right _ (List.mem_of_getElem? (i := 37) rfl))))) rfl
theorem q_4_38 : Cond.methodLink R_LW 97 y_MO_set ∈ fm_T := fm_inT (List.mem_append_right _ (List.mem_append_right _ (List.mem_append_right _ (List.mem_append_right _ (List.mem_of_getElem? (i := 38) rfl))))) rfl
theorem q_4_39 : Cond.instanceMethod y_MO_set ∈ fm_T := fm_inT (List.mem_append_right _ (List.mem_append_right _ (List.mem_append_right _ (List.mem_append_right _ (List.mem_of_getElem? (i := 39) rfl))))) rfl
theorem q_4_40 : Cond.selects R_MO y_MO_set y_MO_set ∈ fm_T := fm_inT (List.mem_append_right _ (List.mem_append_right _ (List.mem_append_right _ (List.mem_append_right _ (List.mem_of_getElem? (i := 40) rfl))))) rfl
theorem q_4_41 : Cond.code y_MO_set prog_7_method_41_code 4 (some .int) ∈ fm_T := fm_inT (List.mem_append_right _ (List.mem_append_right _ (List.mem_append_right _ (List.mem_append_right _ (List.mem_of_getElem? (i := 41) rfl))))) rfl
theorem q_4_42 : Cond.methodLink R_MO 141 y_MO_insert ∈ fm_T := fm_inT (List.mem_append_right _ (List.mem_append_right _ (List.mem_append_right _ (List.mem_append_right _ (List.mem_of_getElem? (i := 42) rfl))))) rfl
theorem q_4_44 : Cond.instanceMethod y_MO_insert ∈ fm_T := fm_inT (List.mem_append_right _ (List.mem_append_right _ (List.mem_append_right _ (List.mem_append_right _ (List.mem_of_getElem? (i := 44) rfl))))) rfl
theorem q_4_45 : Cond.code y_MO_insert prog_7_method_38_code 5 none ∈ fm_T := fm_inT (List.mem_append_right _ (List.mem_append_right _ (List.mem_append_right _ (List.mem_append_right _ (List.mem_of_getElem? (i := 45) rfl))))) rfl
theorem q_4_46 : Cond.methodLink R_MO 149 y_MO_step ∈ fm_T := fm_inT (List.mem_append_right _ (List.mem_append_right _ (List.mem_append_right _ (List.mem_append_right _ (List.mem_of_getElem? (i := 46) rfl))))) rfl
theorem q_4_48 : Cond.instanceMethod y_MO_step ∈ fm_T := fm_inT (List.mem_append_right _ (List.mem_append_right _ (List.mem_append_right _ (List.mem_append_right _ (List.mem_of_getElem? (i := 48) rfl))))) rfl
theorem q_4_49 : Cond.code y_MO_step prog_7_method_40_code 6 (some .int) ∈ fm_T := fm_inT (List.mem_append_right _ (List.mem_append_right _ (List.mem_append_right _ (List.mem_append_right _ (List.mem_of_getElem? (i := 49) rfl))))) rfl
theorem q_4_50 : Cond.methodLink R_MO 145 y_MO_remove ∈ fm_T := fm_inT (List.mem_append_right _ (List.mem_append_right _ (List.mem_append_right _ (List.mem_append_right _ (List.mem_of_getElem? (i := 50) rfl))))) rfl
theorem q_4_52 : Cond.instanceMethod y_MO_remove ∈ fm_T := fm_inT (List.mem_append_right _ (List.mem_append_right _ (List.mem_append_right _ (List.mem_append_right _ (List.mem_of_getElem? (i := 52) rfl))))) rfl
theorem q_4_53 : Cond.code y_MO_remove prog_7_method_39_code 3 none ∈ fm_T := fm_inT (List.mem_append_right _ (List.mem_append_right _ (List.mem_append_right _ (List.mem_append_right _ (List.mem_of_getElem? (i := 53) rfl))))) rfl
theorem q_4_54 : Cond.methodLink R_LW 100 y_MO_isKern ∈ fm_T := fm_inT (List.mem_append_right _ (List.mem_append_right _ (List.mem_append_right _ (List.mem_append_right _ (List.mem_of_getElem? (i := 54) rfl))))) rfl
theorem q_4_55 : Cond.instanceMethod y_MO_isKern ∈ fm_T := fm_inT (List.mem_append_right _ (List.mem_append_right _ (List.mem_append_right _ (List.mem_append_right _ (List.mem_of_getElem? (i := 55) rfl))))) rfl
theorem q_4_56 : Cond.selects R_MO y_MO_isKern y_MO_isKern ∈ fm_T := fm_inT (List.mem_append_right _ (List.mem_append_right _ (List.mem_append_right _ (List.mem_append_right _ (List.mem_of_getElem? (i := 56) rfl))))) rfl
theorem q_4_57 : Cond.code y_MO_isKern prog_7_method_42_code 2 (some .boolean) ∈ fm_T := fm_inT (List.mem_append_right _ (List.mem_append_right _ (List.mem_append_right _ (List.mem_append_right _ (List.mem_of_getElem? (i := 57) rfl))))) rfl
theorem q_4_58 : Cond.methodLink R_LW 103 y_MO_item ∈ fm_T := fm_inT (List.mem_append_right _ (List.mem_append_right _ (List.mem_append_right _ (List.mem_append_right _ (List.mem_of_getElem? (i := 58) rfl))))) rfl
theorem q_4_59 : Cond.instanceMethod y_MO_item ∈ fm_T := fm_inT (List.mem_append_right _ (List.mem_append_right _ (List.mem_append_right _ (List.mem_append_right _ (List.mem_of_getElem? (i := 59) rfl))))) rfl
theorem q_4_60 : Cond.selects R_MO y_MO_item y_MO_item ∈ fm_T := fm_inT (List.mem_append_right _ (List.mem_append_right _ (List.mem_append_right _ (List.mem_append_right _ (List.mem_of_getElem? (i := 60) rfl))))) rfl
theorem q_4_61 : Cond.code y_MO_item prog_7_method_43_code 2 (some .int) ∈ fm_T := fm_inT (List.mem_append_right _ (List.mem_append_right _ (List.mem_append_right _ (List.mem_append_right _ (List.mem_of_getElem? (i := 61) rfl))))) rfl
theorem q_4_62 : Cond.methodLink R_LW 108 y_MO_total ∈ fm_T := fm_inT (List.mem_append_right _ (List.mem_append_right _ (List.mem_append_right _ (List.mem_append_right _ (List.mem_of_getElem? (i := 62) rfl))))) rfl
theorem q_4_63 : Cond.instanceMethod y_MO_total ∈ fm_T := fm_inT (List.mem_append_right _ (List.mem_append_right _ (List.mem_append_right _ (List.mem_append_right _ (List.mem_of_getElem? (i := 63) rfl))))) rfl
theorem q_4_64 : Cond.selects R_MO y_MO_total y_MO_total ∈ fm_T := fm_inT (List.mem_append_right _ (List.mem_append_right _ (List.mem_append_right _ (List.mem_append_right _ (List.mem_of_getElem? (i := 64) rfl))))) rfl
theorem q_4_65 : Cond.code y_MO_total prog_7_method_44_code 4 (some .long) ∈ fm_T := fm_inT (List.mem_append_right _ (List.mem_append_right _ (List.mem_append_right _ (List.mem_append_right _ (List.mem_of_getElem? (i := 65) rfl))))) rfl
theorem q_4_66 : Cond.constantLong R_LW 50 4294967295 ∈ fm_T := fm_inT (List.mem_append_right _ (List.mem_append_right _ (List.mem_append_right _ (List.mem_append_right _ (List.mem_of_getElem? (i := 66) rfl))))) rfl
theorem q_4_67 : Cond.arrayClass FieldType.long ∈ fm_T := fm_inT (List.mem_append_right _ (List.mem_append_right _ (List.mem_append_right _ (List.mem_append_right _ (List.mem_of_getElem? (i := 67) rfl))))) rfl
theorem qs_BF_put : Cond.selects y_BF_put.cls y_BF_put y_BF_put ∈ fm_T := fm_inT (List.mem_append_left _ (List.mem_map.mpr ⟨(y_BF_put, 2), List.mem_append_left _ (List.mem_of_getElem? (i := 0) rfl), rfl⟩)) rfl
theorem qs_FO_lengthByNumbers : Cond.selects y_FO_lengthByNumbers.cls y_FO_lengthByNumbers y_FO_lengthByNumbers ∈ fm_T := fm_inT (List.mem_append_left _ (List.mem_map.mpr ⟨(y_FO_lengthByNumbers, 8), List.mem_append_left _ (List.mem_of_getElem? (i := 2) rfl), rfl⟩)) rfl
theorem qs_FM_requireFont : Cond.selects y_FM_requireFont.cls y_FM_requireFont y_FM_requireFont ∈ fm_T := fm_inT (List.mem_append_left _ (List.mem_map.mpr ⟨(y_FM_requireFont, 7), List.mem_append_left _ (List.mem_of_getElem? (i := 3) rfl), rfl⟩)) rfl
theorem qs_FM_requireThere : Cond.selects y_FM_requireThere.cls y_FM_requireThere y_FM_requireThere ∈ fm_T := fm_inT (List.mem_append_left _ (List.mem_map.mpr ⟨(y_FM_requireThere, 7), List.mem_append_left _ (List.mem_of_getElem? (i := 4) rfl), rfl⟩)) rfl
theorem qs_FM_requireThereOrEdge : Cond.selects y_FM_requireThereOrEdge.cls y_FM_requireThereOrEdge y_FM_requireThereOrEdge ∈ fm_T := fm_inT (List.mem_append_left _ (List.mem_map.mpr ⟨(y_FM_requireThereOrEdge, 7), List.mem_append_left _ (List.mem_of_getElem? (i := 5) rfl), rfl⟩)) rfl
theorem qs_FO_programStart : Cond.selects y_FO_programStart.cls y_FO_programStart y_FO_programStart ∈ fm_T := fm_inT (List.mem_append_left _ (List.mem_map.mpr ⟨(y_FO_programStart, 8), List.mem_append_left _ (List.mem_of_getElem? (i := 6) rfl), rfl⟩)) rfl
theorem qs_FM_rowIsThere : Cond.selects y_FM_rowIsThere.cls y_FM_rowIsThere y_FM_rowIsThere ∈ fm_T := fm_inT (List.mem_append_left _ (List.mem_map.mpr ⟨(y_FM_rowIsThere, 7), List.mem_append_left _ (List.mem_of_getElem? (i := 7) rfl), rfl⟩)) rfl
theorem qs_LI_push : Cond.selects y_LI_push.cls y_LI_push y_LI_push ∈ fm_T := fm_inT (List.mem_append_left _ (List.mem_map.mpr ⟨(y_LI_push, 5), List.mem_append_left _ (List.mem_of_getElem? (i := 8) rfl), rfl⟩)) rfl
theorem qs_LI_step : Cond.selects y_LI_step.cls y_LI_step y_LI_step ∈ fm_T := fm_inT (List.mem_append_left _ (List.mem_map.mpr ⟨(y_LI_step, 5), List.mem_append_left _ (List.mem_of_getElem? (i := 9) rfl), rfl⟩)) rfl
theorem qs_LI_pendingAt : Cond.selects y_LI_pendingAt.cls y_LI_pendingAt y_LI_pendingAt ∈ fm_T := fm_inT (List.mem_append_left _ (List.mem_map.mpr ⟨(y_LI_pendingAt, 5), List.mem_append_left _ (List.mem_of_getElem? (i := 10) rfl), rfl⟩)) rfl
theorem qs_LI_pass : Cond.selects y_LI_pass.cls y_LI_pass y_LI_pass ∈ fm_T := fm_inT (List.mem_append_left _ (List.mem_map.mpr ⟨(y_LI_pass, 5), List.mem_append_left _ (List.mem_of_getElem? (i := 11) rfl), rfl⟩)) rfl
theorem qs_LI_append : Cond.selects y_LI_append.cls y_LI_append y_LI_append ∈ fm_T := fm_inT (List.mem_append_left _ (List.mem_map.mpr ⟨(y_LI_append, 5), List.mem_append_left _ (List.mem_of_getElem? (i := 12) rfl), rfl⟩)) rfl
theorem qs_LI_join : Cond.selects y_LI_join.cls y_LI_join y_LI_join ∈ fm_T := fm_inT (List.mem_append_left _ (List.mem_map.mpr ⟨(y_LI_join, 5), List.mem_append_left _ (List.mem_of_getElem? (i := 13) rfl), rfl⟩)) rfl
theorem qs_FM_requireItem : Cond.selects y_FM_requireItem.cls y_FM_requireItem y_FM_requireItem ∈ fm_T := fm_inT (List.mem_append_left _ (List.mem_map.mpr ⟨(y_FM_requireItem, 7), List.mem_append_left _ (List.mem_of_getElem? (i := 14) rfl), rfl⟩)) rfl
theorem qs_MO_fault : Cond.selects y_MO_fault.cls y_MO_fault y_MO_fault ∈ fm_T := fm_inT (List.mem_append_left _ (List.mem_map.mpr ⟨(y_MO_fault, 11), List.mem_append_left _ (List.mem_of_getElem? (i := 15) rfl), rfl⟩)) rfl
theorem qs_MO_areNumbersSmall : Cond.selects y_MO_areNumbersSmall.cls y_MO_areNumbersSmall y_MO_areNumbersSmall ∈ fm_T := fm_inT (List.mem_append_left _ (List.mem_map.mpr ⟨(y_MO_areNumbersSmall, 11), List.mem_append_right _ (List.mem_of_getElem? (i := 0) rfl), rfl⟩)) rfl
theorem qs_MO_sizeOf : Cond.selects y_MO_sizeOf.cls y_MO_sizeOf y_MO_sizeOf ∈ fm_T := fm_inT (List.mem_append_left _ (List.mem_map.mpr ⟨(y_MO_sizeOf, 11), List.mem_append_right _ (List.mem_of_getElem? (i := 1) rfl), rfl⟩)) rfl
theorem qs_MO_scaled : Cond.selects y_MO_scaled.cls y_MO_scaled y_MO_scaled ∈ fm_T := fm_inT (List.mem_append_left _ (List.mem_map.mpr ⟨(y_MO_scaled, 11), List.mem_append_right _ (List.mem_of_getElem? (i := 2) rfl), rfl⟩)) rfl
theorem qs_MO_mayAsk : Cond.selects y_MO_mayAsk.cls y_MO_mayAsk y_MO_mayAsk ∈ fm_T := fm_inT (List.mem_append_left _ (List.mem_map.mpr ⟨(y_MO_mayAsk, 11), List.mem_append_right _ (List.mem_of_getElem? (i := 3) rfl), rfl⟩)) rfl
theorem qs_MO_found : Cond.selects y_MO_found.cls y_MO_found y_MO_found ∈ fm_T := fm_inT (List.mem_append_left _ (List.mem_map.mpr ⟨(y_MO_found, 11), List.mem_append_right _ (List.mem_of_getElem? (i := 4) rfl), rfl⟩)) rfl
theorem qs_MO_insert : Cond.selects y_MO_insert.cls y_MO_insert y_MO_insert ∈ fm_T := fm_inT (List.mem_append_left _ (List.mem_map.mpr ⟨(y_MO_insert, 11), List.mem_append_right _ (List.mem_of_getElem? (i := 5) rfl), rfl⟩)) rfl
theorem qs_MO_step : Cond.selects y_MO_step.cls y_MO_step y_MO_step ∈ fm_T := fm_inT (List.mem_append_left _ (List.mem_map.mpr ⟨(y_MO_step, 11), List.mem_append_right _ (List.mem_of_getElem? (i := 6) rfl), rfl⟩)) rfl
theorem qs_MO_remove : Cond.selects y_MO_remove.cls y_MO_remove y_MO_remove ∈ fm_T := fm_inT (List.mem_append_left _ (List.mem_map.mpr ⟨(y_MO_remove, 11), List.mem_append_right _ (List.mem_of_getElem? (i := 7) rfl), rfl⟩)) rfl
def w_FM_init : List Cond := .code y_FM_init b_FM_init 1 none :: fm_T
def w_FM_feed : List Cond := .code y_FM_feed b_FM_feed 4 (some .boolean) :: fm_T
def w_FM_keep : List Cond := .code y_FM_keep b_FM_keep 2 (some .boolean) :: fm_T
def w_FM_load : List Cond := .code y_FM_load b_FM_load 4 (some .int) :: fm_T
def w_FM_about : List Cond := .code y_FM_about b_FM_about 2 (some .int) :: fm_T
def w_FM_has : List Cond := .code y_FM_has b_FM_has 2 (some .boolean) :: fm_T
def w_FM_of : List Cond := .code y_FM_of b_FM_of 3 (some .int) :: fm_T
def w_FM_part : List Cond := .code y_FM_part b_FM_part 4 (some .int) :: fm_T
def w_FM_parameter : List Cond := .code y_FM_parameter b_FM_parameter 3 (some .int) :: fm_T
def w_FM_ask : List Cond := .code y_FM_ask b_FM_ask 3 (some .int) :: fm_T
def w_FM_add : List Cond := .code y_FM_add b_FM_add 2 (some .boolean) :: fm_T
def w_FM_set : List Cond := .code y_FM_set b_FM_set 1 (some .int) :: fm_T
def w_FM_isKern : List Cond := .code y_FM_isKern b_FM_isKern 2 (some .boolean) :: fm_T
def w_FM_item : List Cond := .code y_FM_item b_FM_item 2 (some .int) :: fm_T
def w_FM_total : List Cond := .code y_FM_total b_FM_total 1 (some .long) :: fm_T
def w_FM_rowIsThere : List Cond := .code y_FM_rowIsThere b_FM_rowIsThere 2 (some .boolean) :: fm_T
def w_FM_requireFont : List Cond := .code y_FM_requireFont b_FM_requireFont 1 none :: fm_T
def w_FM_requireThere : List Cond := .code y_FM_requireThere b_FM_requireThere 2 none :: fm_T
def w_FM_requireThereOrEdge : List Cond := .code y_FM_requireThereOrEdge b_FM_requireThereOrEdge 2 none :: fm_T
def w_FM_requireItem : List Cond := .code y_FM_requireItem b_FM_requireItem 2 none :: fm_T
def w_MO_init : List Cond := .code y_MO_init b_MO_init 1 none :: fm_T
def w_MO_thrown : List Cond := .code y_MO_thrown b_MO_thrown 1 (some .int) :: fm_T
def w_MO_feed : List Cond := .code y_MO_feed b_MO_feed 5 (some .boolean) :: fm_T
def w_MO_keep : List Cond := .code y_MO_keep b_MO_keep 2 (some .boolean) :: fm_T
def w_MO_half : List Cond := .code y_MO_half b_MO_half 2 (some .int) :: fm_T
def w_MO_words : List Cond := .code y_MO_words b_MO_words 2 (some .int) :: fm_T
def w_MO_start : List Cond := .code y_MO_start b_MO_start 4 (some .int) :: fm_T
def w_MO_at : List Cond := .code y_MO_at b_MO_at 4 (some .int) :: fm_T
def w_MO_far : List Cond := .code y_MO_far b_MO_far 2 (some .int) :: fm_T
def w_MO_isThere : List Cond := .code y_MO_isThere b_MO_isThere 2 (some .boolean) :: fm_T
def w_MO_tag : List Cond := .code y_MO_tag b_MO_tag 2 (some .int) :: fm_T
def w_MO_rest : List Cond := .code y_MO_rest b_MO_rest 2 (some .int) :: fm_T
def w_MO_edgeOf : List Cond := .code y_MO_edgeOf b_MO_edgeOf 1 (some .int) :: fm_T
def w_MO_edgeProgram : List Cond := .code y_MO_edgeProgram b_MO_edgeProgram 2 (some .int) :: fm_T
def w_MO_areNumbersSmall : List Cond := .code y_MO_areNumbersSmall b_MO_areNumbersSmall 3 (some .boolean) :: fm_T
def w_MO_areSizesRight : List Cond := .code y_MO_areSizesRight b_MO_areSizesRight 3 (some .boolean) :: fm_T
def w_MO_isLargerRight : List Cond := .code y_MO_isLargerRight b_MO_isLargerRight 4 (some .boolean) :: fm_T
def w_MO_areTagsRight : List Cond := .code y_MO_areTagsRight b_MO_areTagsRight 4 (some .boolean) :: fm_T
def w_MO_areFractions : List Cond := .code y_MO_areFractions b_MO_areFractions 5 (some .boolean) :: fm_T
def w_MO_areTablesRight : List Cond := .code y_MO_areTablesRight b_MO_areTablesRight 4 (some .boolean) :: fm_T
def w_MO_isWordRight : List Cond := .code y_MO_isWordRight b_MO_isWordRight 7 (some .boolean) :: fm_T
def w_MO_isProgramRight : List Cond := .code y_MO_isProgramRight b_MO_isProgramRight 3 (some .boolean) :: fm_T
def w_MO_areRecipesRight : List Cond := .code y_MO_areRecipesRight b_MO_areRecipesRight 4 (some .boolean) :: fm_T
def w_MO_designOf : List Cond := .code y_MO_designOf b_MO_designOf 3 (some .int) :: fm_T
def w_MO_fault : List Cond := .code y_MO_fault b_MO_fault 4 (some .int) :: fm_T
def w_MO_load : List Cond := .code y_MO_load b_MO_load 4 (some .int) :: fm_T
def w_MO_scaled : List Cond := .code y_MO_scaled b_MO_scaled 10 (some .int) :: fm_T
def w_MO_about : List Cond := .code y_MO_about b_MO_about 2 (some .int) :: fm_T
def w_MO_has : List Cond := .code y_MO_has b_MO_has 2 (some .boolean) :: fm_T
def w_MO_sizeOf : List Cond := .code y_MO_sizeOf b_MO_sizeOf 5 (some .int) :: fm_T
def w_MO_of : List Cond := .code y_MO_of b_MO_of 3 (some .int) :: fm_T
def w_MO_part : List Cond := .code y_MO_part b_MO_part 3 (some .int) :: fm_T
def w_MO_parameter : List Cond := .code y_MO_parameter b_MO_parameter 4 (some .int) :: fm_T
def w_MO_found : List Cond := .code y_MO_found b_MO_found 5 (some .int) :: fm_T
def w_MO_mayAsk : List Cond := .code y_MO_mayAsk b_MO_mayAsk 2 (some .boolean) :: fm_T
def w_MO_ask : List Cond := .code y_MO_ask b_MO_ask 4 (some .int) :: fm_T
def w_MO_add : List Cond := .code y_MO_add b_MO_add 2 (some .boolean) :: fm_T
def w_MO_insert : List Cond := .code y_MO_insert b_MO_insert 5 none :: fm_T
def w_MO_remove : List Cond := .code y_MO_remove b_MO_remove 3 none :: fm_T
def w_MO_step : List Cond := .code y_MO_step b_MO_step 6 (some .int) :: fm_T
def w_MO_set : List Cond := .code y_MO_set b_MO_set 4 (some .int) :: fm_T
def w_MO_isKern : List Cond := .code y_MO_isKern b_MO_isKern 2 (some .boolean) :: fm_T
def w_MO_item : List Cond := .code y_MO_item b_MO_item 2 (some .int) :: fm_T
def w_MO_total : List Cond := .code y_MO_total b_MO_total 4 (some .long) :: fm_T
def w_BF_init : List Cond := .code y_BF_init b_BF_init 1 none :: fm_T
def w_BF_append : List Cond := .code y_BF_append b_BF_append 5 (some .boolean) :: fm_T
def w_BF_cut : List Cond := .code y_BF_cut b_BF_cut 2 (some .boolean) :: fm_T
def w_BF_put : List Cond := .code y_BF_put b_BF_put 4 none :: fm_T
def w_FA_firstOfNumbers : List Cond := .code y_FA_firstOfNumbers b_FA_firstOfNumbers 2 (some .int) :: fm_T
def w_FA_firstOfParts : List Cond := .code y_FA_firstOfParts b_FA_firstOfParts 1 (some .int) :: fm_T
def w_FA_numbersAreSmall : List Cond := .code y_FA_numbersAreSmall b_FA_numbersAreSmall 2 (some .boolean) :: fm_T
def w_FA_partsAreEnough : List Cond := .code y_FA_partsAreEnough b_FA_partsAreEnough 1 (some .boolean) :: fm_T
def w_FA_lengthsAgree : List Cond := .code y_FA_lengthsAgree b_FA_lengthsAgree 5 (some .boolean) :: fm_T
def w_FA_measuresHavePlaces : List Cond := .code y_FA_measuresHavePlaces b_FA_measuresHavePlaces 3 (some .boolean) :: fm_T
def w_FA_tagsHold : List Cond := .code y_FA_tagsHold b_FA_tagsHold 3 (some .boolean) :: fm_T
def w_FA_tagHolds : List Cond := .code y_FA_tagHolds b_FA_tagHolds 4 (some .boolean) :: fm_T
def w_FA_leadsBack : List Cond := .code y_FA_leadsBack b_FA_leadsBack 5 (some .boolean) :: fm_T
def w_FA_fractionsHold : List Cond := .code y_FA_fractionsHold b_FA_fractionsHold 2 (some .boolean) :: fm_T
def w_FA_areFractions : List Cond := .code y_FA_areFractions b_FA_areFractions 5 (some .boolean) :: fm_T
def w_FA_programHolds : List Cond := .code y_FA_programHolds b_FA_programHolds 3 (some .boolean) :: fm_T
def w_FA_wayHolds : List Cond := .code y_FA_wayHolds b_FA_wayHolds 5 (some .boolean) :: fm_T
def w_FA_sayingHolds : List Cond := .code y_FA_sayingHolds b_FA_sayingHolds 4 (some .boolean) :: fm_T
def w_FA_recipesHold : List Cond := .code y_FA_recipesHold b_FA_recipesHold 5 (some .boolean) :: fm_T
def w_FO_init : List Cond := .code y_FO_init b_FO_init 1 none :: fm_T
def w_FO_take : List Cond := .code y_FO_take b_FO_take 4 none :: fm_T
def w_FO_lengthByNumbers : List Cond := .code y_FO_lengthByNumbers b_FO_lengthByNumbers 2 (some .int) :: fm_T
def w_FO_resize : List Cond := .code y_FO_resize b_FO_resize 2 none :: fm_T
def w_FO_number : List Cond := .code y_FO_number b_FO_number 4 (some .int) :: fm_T
def w_FO_lengthOf : List Cond := .code y_FO_lengthOf b_FO_lengthOf 2 (some .int) :: fm_T
def w_FO_word : List Cond := .code y_FO_word b_FO_word 4 (some .int) :: fm_T
def w_FO_designSize : List Cond := .code y_FO_designSize b_FO_designSize 1 (some .int) :: fm_T
def w_FO_scaled : List Cond := .code y_FO_scaled b_FO_scaled 6 (some .int) :: fm_T
def w_FO_character : List Cond := .code y_FO_character b_FO_character 2 (some .int) :: fm_T
def w_FO_isThere : List Cond := .code y_FO_isThere b_FO_isThere 2 (some .boolean) :: fm_T
def w_FO_width : List Cond := .code y_FO_width b_FO_width 2 (some .int) :: fm_T
def w_FO_height : List Cond := .code y_FO_height b_FO_height 2 (some .int) :: fm_T
def w_FO_depth : List Cond := .code y_FO_depth b_FO_depth 2 (some .int) :: fm_T
def w_FO_italic : List Cond := .code y_FO_italic b_FO_italic 2 (some .int) :: fm_T
def w_FO_edge : List Cond := .code y_FO_edge b_FO_edge 2 (some .int) :: fm_T
def w_FO_edgeStart : List Cond := .code y_FO_edgeStart b_FO_edgeStart 2 (some .int) :: fm_T
def w_FO_find : List Cond := .code y_FO_find b_FO_find 10 (some .int) :: fm_T
def w_FO_programStart : List Cond := .code y_FO_programStart b_FO_programStart 4 (some .int) :: fm_T
def w_FO_startOfCharacter : List Cond := .code y_FO_startOfCharacter b_FO_startOfCharacter 1 (some .int) :: fm_T
def w_FO_kern : List Cond := .code y_FO_kern b_FO_kern 2 (some .int) :: fm_T
def w_FO_byteOf : List Cond := .code y_FO_byteOf b_FO_byteOf 2 (some .int) :: fm_T
def w_FO_target : List Cond := .code y_FO_target b_FO_target 1 (some .int) :: fm_T
def w_FO_saying : List Cond := .code y_FO_saying b_FO_saying 1 (some .int) :: fm_T
def w_FO_widthPlace : List Cond := .code y_FO_widthPlace b_FO_widthPlace 1 (some .int) :: fm_T
def w_FO_heightPlace : List Cond := .code y_FO_heightPlace b_FO_heightPlace 1 (some .int) :: fm_T
def w_FO_depthPlace : List Cond := .code y_FO_depthPlace b_FO_depthPlace 1 (some .int) :: fm_T
def w_FO_italicPlace : List Cond := .code y_FO_italicPlace b_FO_italicPlace 1 (some .int) :: fm_T
def w_FO_tag : List Cond := .code y_FO_tag b_FO_tag 1 (some .int) :: fm_T
def w_FO_rest : List Cond := .code y_FO_rest b_FO_rest 1 (some .int) :: fm_T
def w_LI_init : List Cond := .code y_LI_init b_LI_init 1 none :: fm_T
def w_LI_clear : List Cond := .code y_LI_clear b_LI_clear 1 none :: fm_T
def w_LI_lay : List Cond := .code y_LI_lay b_LI_lay 5 none :: fm_T
def w_LI_run : List Cond := .code y_LI_run b_LI_run 3 (some .boolean) :: fm_T
def w_LI_step : List Cond := .code y_LI_step b_LI_step 5 none :: fm_T
def w_LI_join : List Cond := .code y_LI_join b_LI_join 5 none :: fm_T
def w_LI_pass : List Cond := .code y_LI_pass b_LI_pass 4 none :: fm_T
def w_LI_push : List Cond := .code y_LI_push b_LI_push 2 none :: fm_T
def w_LI_pendingAt : List Cond := .code y_LI_pendingAt b_LI_pendingAt 3 (some .int) :: fm_T
def w_LI_append : List Cond := .code y_LI_append b_LI_append 3 none :: fm_T
def w_LI_kernAt : List Cond := .code y_LI_kernAt b_LI_kernAt 2 (some .boolean) :: fm_T
def w_LI_valueAt : List Cond := .code y_LI_valueAt b_LI_valueAt 2 (some .int) :: fm_T
def w_LI_width : List Cond := .code y_LI_width b_LI_width 5 (some .long) :: fm_T
theorem k_FM_feed : fm_Vok y_FM_feed b_FM_feed 4 (some .boolean) 2 := ⟨q_1_122, q_1_123, q_1_1, q_1_124, ⟨by decide +kernel, by decide +kernel, by decide +kernel⟩⟩
theorem k_FM_keep : fm_Vok y_FM_keep b_FM_keep 2 (some .boolean) 1 := ⟨q_1_134, q_1_135, q_1_1, q_1_136, ⟨by decide +kernel, by decide +kernel, by decide +kernel⟩⟩
theorem k_FM_load : fm_Vok y_FM_load b_FM_load 4 (some .int) 1 := ⟨q_1_197, q_1_198, q_1_1, q_1_199, ⟨by decide +kernel, by decide +kernel, by decide +kernel⟩⟩
theorem k_FM_about : fm_Vok y_FM_about b_FM_about 2 (some .int) 1 := ⟨q_2_149, q_2_150, q_1_1, q_2_151, ⟨by decide +kernel, by decide +kernel, by decide +kernel⟩⟩
theorem k_FM_has : fm_Vok y_FM_has b_FM_has 2 (some .boolean) 1 := ⟨q_1_142, q_1_143, q_1_1, q_1_144, ⟨by decide +kernel, by decide +kernel, by decide +kernel⟩⟩
theorem k_FM_of : fm_Vok y_FM_of b_FM_of 3 (some .int) 2 := ⟨q_2_200, q_2_201, q_1_1, q_2_202, ⟨by decide +kernel, by decide +kernel, by decide +kernel⟩⟩
theorem k_FM_part : fm_Vok y_FM_part b_FM_part 4 (some .int) 2 := ⟨q_2_231, q_2_232, q_1_1, q_2_233, ⟨by decide +kernel, by decide +kernel, by decide +kernel⟩⟩
theorem k_FM_parameter : fm_Vok y_FM_parameter b_FM_parameter 3 (some .int) 1 := ⟨q_3_1, q_3_2, q_1_1, q_3_3, ⟨by decide +kernel, by decide +kernel, by decide +kernel⟩⟩
theorem k_FM_ask : fm_Vok y_FM_ask b_FM_ask 3 (some .int) 2 := ⟨q_3_10, q_3_11, q_1_1, q_3_12, ⟨by decide +kernel, by decide +kernel, by decide +kernel⟩⟩
theorem k_FM_add : fm_Vok y_FM_add b_FM_add 2 (some .boolean) 1 := ⟨q_1_161, q_1_162, q_1_1, q_1_163, ⟨by decide +kernel, by decide +kernel, by decide +kernel⟩⟩
theorem k_FM_set : fm_Vok y_FM_set b_FM_set 1 (some .int) 0 := ⟨q_3_37, q_3_38, q_1_1, q_3_39, ⟨by decide +kernel, by decide +kernel, by decide +kernel⟩⟩
theorem k_FM_isKern : fm_Vok y_FM_isKern b_FM_isKern 2 (some .boolean) 1 := ⟨q_3_90, q_3_91, q_1_1, q_3_92, ⟨by decide +kernel, by decide +kernel, by decide +kernel⟩⟩
theorem k_FM_item : fm_Vok y_FM_item b_FM_item 2 (some .int) 1 := ⟨q_3_103, q_3_104, q_1_1, q_3_105, ⟨by decide +kernel, by decide +kernel, by decide +kernel⟩⟩
theorem k_FM_total : fm_Vok y_FM_total b_FM_total 1 (some .long) 0 := ⟨q_1_165, q_1_166, q_1_1, q_1_167, ⟨by decide +kernel, by decide +kernel, by decide +kernel⟩⟩
theorem k_FM_rowIsThere : fm_Vok y_FM_rowIsThere b_FM_rowIsThere 2 (some .boolean) 0 := ⟨q_3_42, qs_FM_rowIsThere, q_1_1, q_3_43, ⟨by decide +kernel, by decide +kernel, by decide +kernel⟩⟩
theorem k_FM_requireFont : fm_Vok y_FM_requireFont b_FM_requireFont 1 none 0 := ⟨q_2_154, qs_FM_requireFont, q_1_1, q_2_155, ⟨by decide +kernel, by decide +kernel, by decide +kernel⟩⟩
theorem k_FM_requireThere : fm_Vok y_FM_requireThere b_FM_requireThere 2 none 1 := ⟨q_2_205, qs_FM_requireThere, q_1_1, q_2_206, ⟨by decide +kernel, by decide +kernel, by decide +kernel⟩⟩
theorem k_FM_requireThereOrEdge : fm_Vok y_FM_requireThereOrEdge b_FM_requireThereOrEdge 2 none 1 := ⟨q_3_15, qs_FM_requireThereOrEdge, q_1_1, q_3_16, ⟨by decide +kernel, by decide +kernel, by decide +kernel⟩⟩
theorem k_FM_requireItem : fm_Vok y_FM_requireItem b_FM_requireItem 2 none 1 := ⟨q_3_95, qs_FM_requireItem, q_1_1, q_3_96, ⟨by decide +kernel, by decide +kernel, by decide +kernel⟩⟩
theorem k_MO_thrown : fm_Vok y_MO_thrown b_MO_thrown 1 (some .int) 0 := ⟨q_3_148, q_3_149, q_1_5, q_3_150, ⟨by decide +kernel, by decide +kernel, by decide +kernel⟩⟩
theorem k_MO_feed : fm_Vok y_MO_feed b_MO_feed 5 (some .boolean) 2 := ⟨q_3_152, q_3_153, q_1_5, q_3_154, ⟨by decide +kernel, by decide +kernel, by decide +kernel⟩⟩
theorem k_MO_keep : fm_Vok y_MO_keep b_MO_keep 2 (some .boolean) 1 := ⟨q_3_156, q_3_157, q_1_5, q_3_158, ⟨by decide +kernel, by decide +kernel, by decide +kernel⟩⟩
theorem k_MO_half : fm_Sok y_MO_half b_MO_half 2 (some .int) 2 := ⟨q_3_173, q_1_5, q_3_174, ⟨by decide +kernel, by decide +kernel, by decide +kernel⟩⟩
theorem k_MO_words : fm_Sok y_MO_words b_MO_words 2 (some .int) 2 := ⟨q_3_176, q_1_5, q_3_177, ⟨by decide +kernel, by decide +kernel, by decide +kernel⟩⟩
theorem k_MO_start : fm_Sok y_MO_start b_MO_start 4 (some .int) 2 := ⟨q_3_179, q_1_5, q_3_180, ⟨by decide +kernel, by decide +kernel, by decide +kernel⟩⟩
theorem k_MO_at : fm_Sok y_MO_at b_MO_at 4 (some .int) 4 := ⟨q_3_185, q_1_5, q_3_186, ⟨by decide +kernel, by decide +kernel, by decide +kernel⟩⟩
theorem k_MO_far : fm_Sok y_MO_far b_MO_far 2 (some .int) 2 := ⟨q_3_219, q_1_5, q_3_220, ⟨by decide +kernel, by decide +kernel, by decide +kernel⟩⟩
theorem k_MO_isThere : fm_Sok y_MO_isThere b_MO_isThere 2 (some .boolean) 2 := ⟨q_3_195, q_1_5, q_3_196, ⟨by decide +kernel, by decide +kernel, by decide +kernel⟩⟩
theorem k_MO_tag : fm_Sok y_MO_tag b_MO_tag 2 (some .int) 2 := ⟨q_3_198, q_1_5, q_3_199, ⟨by decide +kernel, by decide +kernel, by decide +kernel⟩⟩
theorem k_MO_rest : fm_Sok y_MO_rest b_MO_rest 2 (some .int) 2 := ⟨q_3_201, q_1_5, q_3_202, ⟨by decide +kernel, by decide +kernel, by decide +kernel⟩⟩
theorem k_MO_edgeOf : fm_Sok y_MO_edgeOf b_MO_edgeOf 1 (some .int) 1 := ⟨q_3_222, q_1_5, q_3_223, ⟨by decide +kernel, by decide +kernel, by decide +kernel⟩⟩
theorem k_MO_edgeProgram : fm_Sok y_MO_edgeProgram b_MO_edgeProgram 2 (some .int) 1 := ⟨q_3_232, q_1_5, q_3_233, ⟨by decide +kernel, by decide +kernel, by decide +kernel⟩⟩
theorem k_MO_areNumbersSmall : fm_Vok y_MO_areNumbersSmall b_MO_areNumbersSmall 3 (some .boolean) 0 := ⟨q_3_170, qs_MO_areNumbersSmall, q_1_5, q_3_171, ⟨by decide +kernel, by decide +kernel, by decide +kernel⟩⟩
theorem k_MO_areSizesRight : fm_Sok y_MO_areSizesRight b_MO_areSizesRight 3 (some .boolean) 1 := ⟨q_3_189, q_1_5, q_3_190, ⟨by decide +kernel, by decide +kernel, by decide +kernel⟩⟩
theorem k_MO_isLargerRight : fm_Sok y_MO_isLargerRight b_MO_isLargerRight 4 (some .boolean) 2 := ⟨q_3_204, q_1_5, q_3_205, ⟨by decide +kernel, by decide +kernel, by decide +kernel⟩⟩
theorem k_MO_areTagsRight : fm_Sok y_MO_areTagsRight b_MO_areTagsRight 4 (some .boolean) 1 := ⟨q_3_192, q_1_5, q_3_193, ⟨by decide +kernel, by decide +kernel, by decide +kernel⟩⟩
theorem k_MO_areFractions : fm_Sok y_MO_areFractions b_MO_areFractions 5 (some .boolean) 3 := ⟨q_3_210, q_1_5, q_3_211, ⟨by decide +kernel, by decide +kernel, by decide +kernel⟩⟩
theorem k_MO_areTablesRight : fm_Sok y_MO_areTablesRight b_MO_areTablesRight 4 (some .boolean) 1 := ⟨q_3_207, q_1_5, q_3_208, ⟨by decide +kernel, by decide +kernel, by decide +kernel⟩⟩
theorem k_MO_isWordRight : fm_Sok y_MO_isWordRight b_MO_isWordRight 7 (some .boolean) 2 := ⟨q_3_216, q_1_5, q_3_217, ⟨by decide +kernel, by decide +kernel, by decide +kernel⟩⟩
theorem k_MO_isProgramRight : fm_Sok y_MO_isProgramRight b_MO_isProgramRight 3 (some .boolean) 1 := ⟨q_3_213, q_1_5, q_3_214, ⟨by decide +kernel, by decide +kernel, by decide +kernel⟩⟩
theorem k_MO_areRecipesRight : fm_Sok y_MO_areRecipesRight b_MO_areRecipesRight 4 (some .boolean) 1 := ⟨q_3_225, q_1_5, q_3_226, ⟨by decide +kernel, by decide +kernel, by decide +kernel⟩⟩
theorem k_MO_designOf : fm_Sok y_MO_designOf b_MO_designOf 3 (some .int) 1 := ⟨q_3_182, q_1_5, q_3_183, ⟨by decide +kernel, by decide +kernel, by decide +kernel⟩⟩
theorem k_MO_fault : fm_Vok y_MO_fault b_MO_fault 4 (some .int) 0 := ⟨q_3_166, qs_MO_fault, q_1_5, q_3_167, ⟨by decide +kernel, by decide +kernel, by decide +kernel⟩⟩
theorem k_MO_load : fm_Vok y_MO_load b_MO_load 4 (some .int) 1 := ⟨q_3_160, q_3_161, q_1_5, q_3_162, ⟨by decide +kernel, by decide +kernel, by decide +kernel⟩⟩
theorem k_MO_scaled : fm_Vok y_MO_scaled b_MO_scaled 10 (some .int) 2 := ⟨q_4_8, qs_MO_scaled, q_1_5, q_4_9, ⟨by decide +kernel, by decide +kernel, by decide +kernel⟩⟩
theorem k_MO_about : fm_Vok y_MO_about b_MO_about 2 (some .int) 1 := ⟨q_3_228, q_3_229, q_1_5, q_3_230, ⟨by decide +kernel, by decide +kernel, by decide +kernel⟩⟩
theorem k_MO_has : fm_Vok y_MO_has b_MO_has 2 (some .boolean) 1 := ⟨q_3_235, q_3_236, q_1_5, q_3_237, ⟨by decide +kernel, by decide +kernel, by decide +kernel⟩⟩
theorem k_MO_sizeOf : fm_Vok y_MO_sizeOf b_MO_sizeOf 5 (some .int) 2 := ⟨q_4_4, qs_MO_sizeOf, q_1_5, q_4_5, ⟨by decide +kernel, by decide +kernel, by decide +kernel⟩⟩
theorem k_MO_of : fm_Vok y_MO_of b_MO_of 3 (some .int) 2 := ⟨q_3_239, q_4_0, q_1_5, q_4_1, ⟨by decide +kernel, by decide +kernel, by decide +kernel⟩⟩
theorem k_MO_part : fm_Vok y_MO_part b_MO_part 3 (some .int) 2 := ⟨q_4_15, q_4_16, q_1_5, q_4_17, ⟨by decide +kernel, by decide +kernel, by decide +kernel⟩⟩
theorem k_MO_parameter : fm_Vok y_MO_parameter b_MO_parameter 4 (some .int) 1 := ⟨q_4_19, q_4_20, q_1_5, q_4_21, ⟨by decide +kernel, by decide +kernel, by decide +kernel⟩⟩
theorem k_MO_found : fm_Vok y_MO_found b_MO_found 5 (some .int) 2 := ⟨q_4_32, qs_MO_found, q_1_5, q_4_33, ⟨by decide +kernel, by decide +kernel, by decide +kernel⟩⟩
theorem k_MO_mayAsk : fm_Vok y_MO_mayAsk b_MO_mayAsk 2 (some .boolean) 1 := ⟨q_4_28, qs_MO_mayAsk, q_1_5, q_4_29, ⟨by decide +kernel, by decide +kernel, by decide +kernel⟩⟩
theorem k_MO_ask : fm_Vok y_MO_ask b_MO_ask 4 (some .int) 2 := ⟨q_4_23, q_4_24, q_1_5, q_4_25, ⟨by decide +kernel, by decide +kernel, by decide +kernel⟩⟩
theorem k_MO_add : fm_Vok y_MO_add b_MO_add 2 (some .boolean) 1 := ⟨q_4_35, q_4_36, q_1_5, q_4_37, ⟨by decide +kernel, by decide +kernel, by decide +kernel⟩⟩
theorem k_MO_insert : fm_Vok y_MO_insert b_MO_insert 5 none 3 := ⟨q_4_44, qs_MO_insert, q_1_5, q_4_45, ⟨by decide +kernel, by decide +kernel, by decide +kernel⟩⟩
theorem k_MO_remove : fm_Vok y_MO_remove b_MO_remove 3 none 1 := ⟨q_4_52, qs_MO_remove, q_1_5, q_4_53, ⟨by decide +kernel, by decide +kernel, by decide +kernel⟩⟩
theorem k_MO_step : fm_Vok y_MO_step b_MO_step 6 (some .int) 1 := ⟨q_4_48, qs_MO_step, q_1_5, q_4_49, ⟨by decide +kernel, by decide +kernel, by decide +kernel⟩⟩
theorem k_MO_set : fm_Vok y_MO_set b_MO_set 4 (some .int) 0 := ⟨q_4_39, q_4_40, q_1_5, q_4_41, ⟨by decide +kernel, by decide +kernel, by decide +kernel⟩⟩
theorem k_MO_isKern : fm_Vok y_MO_isKern b_MO_isKern 2 (some .boolean) 1 := ⟨q_4_55, q_4_56, q_1_5, q_4_57, ⟨by decide +kernel, by decide +kernel, by decide +kernel⟩⟩
theorem k_MO_item : fm_Vok y_MO_item b_MO_item 2 (some .int) 1 := ⟨q_4_59, q_4_60, q_1_5, q_4_61, ⟨by decide +kernel, by decide +kernel, by decide +kernel⟩⟩
theorem k_MO_total : fm_Vok y_MO_total b_MO_total 4 (some .long) 0 := ⟨q_4_63, q_4_64, q_1_5, q_4_65, ⟨by decide +kernel, by decide +kernel, by decide +kernel⟩⟩
theorem k_BF_append : fm_Vok y_BF_append b_BF_append 5 (some .boolean) 2 := ⟨q_1_126, q_1_127, q_1_2, q_1_128, ⟨by decide +kernel, by decide +kernel, by decide +kernel⟩⟩
theorem k_BF_cut : fm_Vok y_BF_cut b_BF_cut 2 (some .boolean) 1 := ⟨q_1_138, q_1_139, q_1_2, q_1_140, ⟨by decide +kernel, by decide +kernel, by decide +kernel⟩⟩
theorem k_BF_put : fm_Vok y_BF_put b_BF_put 4 none 1 := ⟨q_1_131, qs_BF_put, q_1_2, q_1_132, ⟨by decide +kernel, by decide +kernel, by decide +kernel⟩⟩
theorem k_FA_firstOfNumbers : fm_Sok y_FA_firstOfNumbers b_FA_firstOfNumbers 2 (some .int) 2 := ⟨q_2_49, q_1_12, q_2_50, ⟨by decide +kernel, by decide +kernel, by decide +kernel⟩⟩
theorem k_FA_firstOfParts : fm_Sok y_FA_firstOfParts b_FA_firstOfParts 1 (some .int) 1 := ⟨q_2_66, q_1_12, q_2_67, ⟨by decide +kernel, by decide +kernel, by decide +kernel⟩⟩
theorem k_FA_numbersAreSmall : fm_Sok y_FA_numbersAreSmall b_FA_numbersAreSmall 2 (some .boolean) 1 := ⟨q_2_52, q_1_12, q_2_53, ⟨by decide +kernel, by decide +kernel, by decide +kernel⟩⟩
theorem k_FA_partsAreEnough : fm_Sok y_FA_partsAreEnough b_FA_partsAreEnough 1 (some .boolean) 1 := ⟨q_2_56, q_1_12, q_2_57, ⟨by decide +kernel, by decide +kernel, by decide +kernel⟩⟩
theorem k_FA_lengthsAgree : fm_Sok y_FA_lengthsAgree b_FA_lengthsAgree 5 (some .boolean) 2 := ⟨q_2_63, q_1_12, q_2_64, ⟨by decide +kernel, by decide +kernel, by decide +kernel⟩⟩
theorem k_FA_measuresHavePlaces : fm_Sok y_FA_measuresHavePlaces b_FA_measuresHavePlaces 3 (some .boolean) 1 := ⟨q_2_71, q_1_12, q_2_72, ⟨by decide +kernel, by decide +kernel, by decide +kernel⟩⟩
theorem k_FA_tagsHold : fm_Sok y_FA_tagsHold b_FA_tagsHold 3 (some .boolean) 1 := ⟨q_2_84, q_1_12, q_2_85, ⟨by decide +kernel, by decide +kernel, by decide +kernel⟩⟩
theorem k_FA_tagHolds : fm_Sok y_FA_tagHolds b_FA_tagHolds 4 (some .boolean) 2 := ⟨q_2_88, q_1_12, q_2_89, ⟨by decide +kernel, by decide +kernel, by decide +kernel⟩⟩
theorem k_FA_leadsBack : fm_Sok y_FA_leadsBack b_FA_leadsBack 5 (some .boolean) 2 := ⟨q_2_98, q_1_12, q_2_99, ⟨by decide +kernel, by decide +kernel, by decide +kernel⟩⟩
theorem k_FA_fractionsHold : fm_Sok y_FA_fractionsHold b_FA_fractionsHold 2 (some .boolean) 1 := ⟨q_2_101, q_1_12, q_2_102, ⟨by decide +kernel, by decide +kernel, by decide +kernel⟩⟩
theorem k_FA_areFractions : fm_Sok y_FA_areFractions b_FA_areFractions 5 (some .boolean) 3 := ⟨q_2_104, q_1_12, q_2_105, ⟨by decide +kernel, by decide +kernel, by decide +kernel⟩⟩
theorem k_FA_programHolds : fm_Sok y_FA_programHolds b_FA_programHolds 3 (some .boolean) 1 := ⟨q_2_108, q_1_12, q_2_109, ⟨by decide +kernel, by decide +kernel, by decide +kernel⟩⟩
theorem k_FA_wayHolds : fm_Sok y_FA_wayHolds b_FA_wayHolds 5 (some .boolean) 3 := ⟨q_2_111, q_1_12, q_2_112, ⟨by decide +kernel, by decide +kernel, by decide +kernel⟩⟩
theorem k_FA_sayingHolds : fm_Sok y_FA_sayingHolds b_FA_sayingHolds 4 (some .boolean) 2 := ⟨q_2_117, q_1_12, q_2_118, ⟨by decide +kernel, by decide +kernel, by decide +kernel⟩⟩
theorem k_FA_recipesHold : fm_Sok y_FA_recipesHold b_FA_recipesHold 5 (some .boolean) 1 := ⟨q_2_128, q_1_12, q_2_129, ⟨by decide +kernel, by decide +kernel, by decide +kernel⟩⟩
theorem k_FO_take : fm_Vok y_FO_take b_FO_take 4 none 1 := ⟨q_2_30, q_2_31, q_1_4, q_2_32, ⟨by decide +kernel, by decide +kernel, by decide +kernel⟩⟩
theorem k_FO_lengthByNumbers : fm_Vok y_FO_lengthByNumbers b_FO_lengthByNumbers 2 (some .int) 1 := ⟨q_2_46, qs_FO_lengthByNumbers, q_1_4, q_2_47, ⟨by decide +kernel, by decide +kernel, by decide +kernel⟩⟩
theorem k_FO_resize : fm_Vok y_FO_resize b_FO_resize 2 none 1 := ⟨q_2_135, q_2_136, q_1_4, q_2_137, ⟨by decide +kernel, by decide +kernel, by decide +kernel⟩⟩
theorem k_FO_number : fm_Vok y_FO_number b_FO_number 4 (some .int) 1 := ⟨q_2_40, q_2_41, q_1_4, q_2_42, ⟨by decide +kernel, by decide +kernel, by decide +kernel⟩⟩
theorem k_FO_lengthOf : fm_Vok y_FO_lengthOf b_FO_lengthOf 2 (some .int) 1 := ⟨q_2_59, q_2_60, q_1_4, q_2_61, ⟨by decide +kernel, by decide +kernel, by decide +kernel⟩⟩
theorem k_FO_word : fm_Vok y_FO_word b_FO_word 4 (some .int) 2 := ⟨q_1_154, q_1_155, q_1_4, q_1_156, ⟨by decide +kernel, by decide +kernel, by decide +kernel⟩⟩
theorem k_FO_designSize : fm_Vok y_FO_designSize b_FO_designSize 1 (some .int) 0 := ⟨q_2_131, q_2_132, q_1_4, q_2_133, ⟨by decide +kernel, by decide +kernel, by decide +kernel⟩⟩
theorem k_FO_scaled : fm_Vok y_FO_scaled b_FO_scaled 6 (some .int) 1 := ⟨q_1_185, q_1_186, q_1_4, q_1_187, ⟨by decide +kernel, by decide +kernel, by decide +kernel⟩⟩
theorem k_FO_character : fm_Vok y_FO_character b_FO_character 2 (some .int) 1 := ⟨q_1_150, q_1_151, q_1_4, q_1_152, ⟨by decide +kernel, by decide +kernel, by decide +kernel⟩⟩
theorem k_FO_isThere : fm_Vok y_FO_isThere b_FO_isThere 2 (some .boolean) 1 := ⟨q_1_146, q_1_147, q_1_4, q_1_148, ⟨by decide +kernel, by decide +kernel, by decide +kernel⟩⟩
theorem k_FO_width : fm_Vok y_FO_width b_FO_width 2 (some .int) 1 := ⟨q_1_181, q_1_182, q_1_4, q_1_183, ⟨by decide +kernel, by decide +kernel, by decide +kernel⟩⟩
theorem k_FO_height : fm_Vok y_FO_height b_FO_height 2 (some .int) 1 := ⟨q_2_210, q_2_211, q_1_4, q_2_212, ⟨by decide +kernel, by decide +kernel, by decide +kernel⟩⟩
theorem k_FO_depth : fm_Vok y_FO_depth b_FO_depth 2 (some .int) 1 := ⟨q_2_215, q_2_216, q_1_4, q_2_217, ⟨by decide +kernel, by decide +kernel, by decide +kernel⟩⟩
theorem k_FO_italic : fm_Vok y_FO_italic b_FO_italic 2 (some .int) 1 := ⟨q_2_220, q_2_221, q_1_4, q_2_222, ⟨by decide +kernel, by decide +kernel, by decide +kernel⟩⟩
theorem k_FO_edge : fm_Vok y_FO_edge b_FO_edge 2 (some .int) 0 := ⟨q_2_120, q_2_121, q_1_4, q_2_122, ⟨by decide +kernel, by decide +kernel, by decide +kernel⟩⟩
theorem k_FO_edgeStart : fm_Vok y_FO_edgeStart b_FO_edgeStart 2 (some .int) 0 := ⟨q_2_175, q_2_176, q_1_4, q_2_177, ⟨by decide +kernel, by decide +kernel, by decide +kernel⟩⟩
theorem k_FO_find : fm_Vok y_FO_find b_FO_find 10 (some .int) 2 := ⟨q_3_18, q_3_19, q_1_4, q_3_20, ⟨by decide +kernel, by decide +kernel, by decide +kernel⟩⟩
theorem k_FO_programStart : fm_Vok y_FO_programStart b_FO_programStart 4 (some .int) 1 := ⟨q_3_23, qs_FO_programStart, q_1_4, q_3_24, ⟨by decide +kernel, by decide +kernel, by decide +kernel⟩⟩
theorem k_FO_startOfCharacter : fm_Sok y_FO_startOfCharacter b_FO_startOfCharacter 1 (some .int) 1 := ⟨q_3_27, q_1_4, q_3_28, ⟨by decide +kernel, by decide +kernel, by decide +kernel⟩⟩
theorem k_FO_kern : fm_Vok y_FO_kern b_FO_kern 2 (some .int) 1 := ⟨q_3_78, q_3_79, q_1_4, q_3_80, ⟨by decide +kernel, by decide +kernel, by decide +kernel⟩⟩
theorem k_FO_byteOf : fm_Sok y_FO_byteOf b_FO_byteOf 2 (some .int) 2 := ⟨q_1_190, q_1_4, q_1_191, ⟨by decide +kernel, by decide +kernel, by decide +kernel⟩⟩
theorem k_FO_target : fm_Sok y_FO_target b_FO_target 1 (some .int) 1 := ⟨q_2_114, q_1_4, q_2_115, ⟨by decide +kernel, by decide +kernel, by decide +kernel⟩⟩
theorem k_FO_saying : fm_Sok y_FO_saying b_FO_saying 1 (some .int) 1 := ⟨q_2_124, q_1_4, q_2_125, ⟨by decide +kernel, by decide +kernel, by decide +kernel⟩⟩
theorem k_FO_widthPlace : fm_Sok y_FO_widthPlace b_FO_widthPlace 1 (some .int) 1 := ⟨q_1_158, q_1_4, q_1_159, ⟨by decide +kernel, by decide +kernel, by decide +kernel⟩⟩
theorem k_FO_heightPlace : fm_Sok y_FO_heightPlace b_FO_heightPlace 1 (some .int) 1 := ⟨q_2_75, q_1_4, q_2_76, ⟨by decide +kernel, by decide +kernel, by decide +kernel⟩⟩
theorem k_FO_depthPlace : fm_Sok y_FO_depthPlace b_FO_depthPlace 1 (some .int) 1 := ⟨q_2_78, q_1_4, q_2_79, ⟨by decide +kernel, by decide +kernel, by decide +kernel⟩⟩
theorem k_FO_italicPlace : fm_Sok y_FO_italicPlace b_FO_italicPlace 1 (some .int) 1 := ⟨q_2_81, q_1_4, q_2_82, ⟨by decide +kernel, by decide +kernel, by decide +kernel⟩⟩
theorem k_FO_tag : fm_Sok y_FO_tag b_FO_tag 1 (some .int) 1 := ⟨q_2_95, q_1_4, q_2_96, ⟨by decide +kernel, by decide +kernel, by decide +kernel⟩⟩
theorem k_FO_rest : fm_Sok y_FO_rest b_FO_rest 1 (some .int) 1 := ⟨q_2_92, q_1_4, q_2_93, ⟨by decide +kernel, by decide +kernel, by decide +kernel⟩⟩
theorem k_LI_clear : fm_Vok y_LI_clear b_LI_clear 1 none 0 := ⟨q_2_140, q_2_141, q_1_3, q_2_142, ⟨by decide +kernel, by decide +kernel, by decide +kernel⟩⟩
theorem k_LI_lay : fm_Vok y_LI_lay b_LI_lay 5 none 3 := ⟨q_3_45, q_3_46, q_1_3, q_3_47, ⟨by decide +kernel, by decide +kernel, by decide +kernel⟩⟩
theorem k_LI_run : fm_Vok y_LI_run b_LI_run 3 (some .boolean) 1 := ⟨q_3_56, q_3_57, q_1_3, q_3_58, ⟨by decide +kernel, by decide +kernel, by decide +kernel⟩⟩
theorem k_LI_step : fm_Vok y_LI_step b_LI_step 5 none 1 := ⟨q_3_61, qs_LI_step, q_1_3, q_3_62, ⟨by decide +kernel, by decide +kernel, by decide +kernel⟩⟩
theorem k_LI_join : fm_Vok y_LI_join b_LI_join 5 none 3 := ⟨q_3_83, qs_LI_join, q_1_3, q_3_84, ⟨by decide +kernel, by decide +kernel, by decide +kernel⟩⟩
theorem k_LI_pass : fm_Vok y_LI_pass b_LI_pass 4 none 1 := ⟨q_3_70, qs_LI_pass, q_1_3, q_3_71, ⟨by decide +kernel, by decide +kernel, by decide +kernel⟩⟩
theorem k_LI_push : fm_Vok y_LI_push b_LI_push 2 none 1 := ⟨q_3_51, qs_LI_push, q_1_3, q_3_52, ⟨by decide +kernel, by decide +kernel, by decide +kernel⟩⟩
theorem k_LI_pendingAt : fm_Vok y_LI_pendingAt b_LI_pendingAt 3 (some .int) 1 := ⟨q_3_65, qs_LI_pendingAt, q_1_3, q_3_66, ⟨by decide +kernel, by decide +kernel, by decide +kernel⟩⟩
theorem k_LI_append : fm_Vok y_LI_append b_LI_append 3 none 2 := ⟨q_3_74, qs_LI_append, q_1_3, q_3_75, ⟨by decide +kernel, by decide +kernel, by decide +kernel⟩⟩
theorem k_LI_kernAt : fm_Vok y_LI_kernAt b_LI_kernAt 2 (some .boolean) 1 := ⟨q_1_173, q_1_174, q_1_3, q_1_175, ⟨by decide +kernel, by decide +kernel, by decide +kernel⟩⟩
theorem k_LI_valueAt : fm_Vok y_LI_valueAt b_LI_valueAt 2 (some .int) 1 := ⟨q_1_177, q_1_178, q_1_3, q_1_179, ⟨by decide +kernel, by decide +kernel, by decide +kernel⟩⟩
theorem k_LI_width : fm_Vok y_LI_width b_LI_width 5 (some .long) 1 := ⟨q_1_169, q_1_170, q_1_3, q_1_171, ⟨by decide +kernel, by decide +kernel, by decide +kernel⟩⟩
theorem i_BF : ∀ w ∈ u_ws R_BF F_BF 2, w ∈ fm_T := fun w hw => by
  obtain ⟨k, hk, rfl⟩ := List.mem_map.mp hw
  have hk := List.mem_range.mp hk
  rcases (show k = 0 ∨ k = 1 by omega) with rfl | rfl
  · exact q_1_33
  · exact q_1_35
theorem i_FO : ∀ w ∈ u_ws R_FO F_FO 8, w ∈ fm_T := fun w hw => by
  obtain ⟨k, hk, rfl⟩ := List.mem_map.mp hw
  have hk := List.mem_range.mp hk
  rcases (show k = 0 ∨ k = 1 ∨ k = 2 ∨ k = 3 ∨ k = 4 ∨ k = 5 ∨ k = 6 ∨ k = 7 by omega) with rfl | rfl | rfl | rfl | rfl | rfl | rfl | rfl
  · exact q_1_82
  · exact q_1_84
  · exact q_1_86
  · exact q_1_88
  · exact q_1_90
  · exact q_1_92
  · exact q_1_94
  · exact q_1_96
theorem i_LI : ∀ w ∈ u_ws R_LI F_LI 5, w ∈ fm_T := fun w hw => by
  obtain ⟨k, hk, rfl⟩ := List.mem_map.mp hw
  have hk := List.mem_range.mp hk
  rcases (show k = 0 ∨ k = 1 ∨ k = 2 ∨ k = 3 ∨ k = 4 by omega) with rfl | rfl | rfl | rfl | rfl
  · exact q_1_51
  · exact q_1_53
  · exact q_1_55
  · exact q_1_57
  · exact q_1_59
theorem i_FM : ∀ w ∈ u_ws R_FM F_FM 7, w ∈ fm_T := fun w hw => by
  obtain ⟨k, hk, rfl⟩ := List.mem_map.mp hw
  have hk := List.mem_range.mp hk
  rcases (show k = 0 ∨ k = 1 ∨ k = 2 ∨ k = 3 ∨ k = 4 ∨ k = 5 ∨ k = 6 by omega) with rfl | rfl | rfl | rfl | rfl | rfl | rfl
  · exact q_1_106
  · exact q_1_108
  · exact q_1_110
  · exact q_1_112
  · exact q_1_114
  · exact q_1_116
  · exact q_1_118
theorem i_MO : ∀ w ∈ u_ws R_MO F_MO 11, w ∈ fm_T := fun w hw => by
  obtain ⟨k, hk, rfl⟩ := List.mem_map.mp hw
  have hk := List.mem_range.mp hk
  rcases (show k = 0 ∨ k = 1 ∨ k = 2 ∨ k = 3 ∨ k = 4 ∨ k = 5 ∨ k = 6 ∨ k = 7 ∨ k = 8 ∨ k = 9 ∨ k = 10 by omega) with rfl | rfl | rfl | rfl | rfl | rfl | rfl | rfl | rfl | rfl | rfl
  · exact q_3_124
  · exact q_3_126
  · exact q_3_128
  · exact q_3_130
  · exact q_3_132
  · exact q_3_134
  · exact q_3_136
  · exact q_3_138
  · exact q_3_140
  · exact q_3_142
  · exact q_3_144
end
section
/-! THE MODEL: numbers of a file B of bytes -/
def fm_bI (b : Bool) : Int32 := if b then 1 else 0
def fm_all : Nat → (Nat → Bool) → Bool
  | 0, _ => true
  | n + 1, p => fm_all n p && p n
theorem fm_all_iff {n : Nat} {p : Nat → Bool} : fm_all n p = true ↔ ∀ k, k < n → p k = true := by
  induction n with
  | zero => simp [fm_all]
  | succ n ih =>
    rw [fm_all, Bool.and_eq_true, ih]
    constructor
    · intro h k hk
      rcases Nat.lt_succ_iff_lt_or_eq.mp hk with h1 | h1
      · exact h.1 k h1
      · rw [h1]; exact h.2
    · intro h
      exact ⟨fun k hk => h k (Nat.lt_succ_of_lt hk), h n (Nat.lt_succ_self n)⟩
theorem fm_all_no {n k : Nat} {p : Nat → Bool} (hk : k < n) (h : p k = false) : fm_all n p = false := by
  cases hq : fm_all n p with
  | false => rfl
  | true => rw [fm_all_iff.mp hq k hk] at h; cases h
theorem fm_all_congr {n : Nat} {p q : Nat → Bool} (h : ∀ k, k < n → p k = q k) : fm_all n p = fm_all n q := by
  induction n with
  | zero => rfl
  | succ n ih => rw [fm_all, fm_all, ih (fun k hk => h k (Nat.lt_succ_of_lt hk)), h n (Nat.lt_succ_self n)]
def fm_HF (B : Nat → Nat) (k : Nat) : Nat := 256 * B (2 * k) + B (2 * k + 1)
def fm_WD (B : Nat → Nat) (p : Nat) : Nat := if p = 0 then fm_HF B 1 else if p = 1 then fm_HF B 3 + 1 - fm_HF B 2 else fm_HF B (p + 2)
def fm_ST (B : Nat → Nat) : Nat → Nat
  | 0 => 6
  | p + 1 => fm_ST B p + fm_WD B p
def fm_AT (B : Nat → Nat) (p k b : Nat) : Nat := B (4 * (fm_ST B p + k) + b)
def fm_FAR (B : Nat → Nat) (k : Nat) : Nat := 256 * fm_AT B 6 k 2 + fm_AT B 6 k 3
/-- the 32 bits of a word -/
def fm_WO (B : Nat → Nat) (i : Nat) : Nat := B (4 * i) * 16777216 + B (4 * i + 1) * 65536 + B (4 * i + 2) * 256 + B (4 * i + 3)
/-- character c is there -/
def fm_th (B : Nat → Nat) (c : Nat) : Bool := decide (fm_HF B 2 ≤ c) && decide (c ≤ fm_HF B 3) && decide (0 < fm_AT B 1 (c - fm_HF B 2) 0)
def fm_thI (B : Nat → Nat) (c : Int32) : Bool := decide (¬ c < 0) && fm_th B c.toNatClampNeg
def fm_tag (B : Nat → Nat) (c : Nat) : Nat := fm_AT B 1 (c - fm_HF B 2) 2 % 4
def fm_rest (B : Nat → Nat) (c : Nat) : Nat := fm_AT B 1 (c - fm_HF B 2) 3
def fm_eg (B : Nat → Nat) : Int32 := if 0 < fm_WD B 6 ∧ fm_AT B 6 0 0 = 255 then nI (fm_AT B 6 0 1) else -1
def fm_ep (B : Nat → Nat) : Int32 := if 0 < fm_WD B 6 ∧ fm_AT B 6 (fm_WD B 6 - 1) 0 = 255 then nI (fm_FAR B (fm_WD B 6 - 1)) else -1
/-- the lengths fit: behind faults 1 to 4 -/
def fm_Len (B : Nat → Nat) : Prop := (∀ i, B i < 256) ∧ fm_HF B 2 ≤ fm_HF B 3 + 1 ∧ fm_HF B 3 ≤ 255 ∧ fm_ST B 10 ≤ 2048
-- the checks
def fm_sm (B : Nat → Nat) (k : Nat) : Bool := decide (fm_HF B k ≤ 32767)
def fm_small (B : Nat → Nat) (n : Nat) : Bool := decide (24 ≤ n) && fm_all 12 (fm_sm B)
def fm_size1 (B : Nat → Nat) (k : Nat) : Bool := decide (fm_AT B 1 k 0 < fm_WD B 2) && decide (fm_AT B 1 k 1 / 16 < fm_WD B 3) && decide (fm_AT B 1 k 1 % 16 < fm_WD B 4) && decide (fm_AT B 1 k 2 / 4 < fm_WD B 5)
def fm_lead (B : Nat → Nat) (c : Nat) : Nat → Nat → Bool
  | 0, _ => true
  | n + 1, x => if x = c then false else if fm_th B x = false ∨ fm_tag B x ≠ 2 then true else fm_lead B c n (fm_rest B x)
def fm_larger (B : Nat → Nat) (c : Nat) : Bool := fm_th B (fm_rest B c) && fm_lead B c 256 (fm_rest B c)
def fm_tag1 (B : Nat → Nat) (c : Nat) : Bool := !fm_th B c || ((decide (fm_tag B c ≠ 1) || decide (fm_rest B c < fm_WD B 6)) && (decide (fm_tag B c ≠ 3) || decide (fm_rest B c < fm_WD B 8)) && (decide (fm_tag B c ≠ 2) || fm_larger B c))
def fm_frac (B : Nat → Nat) (p k : Nat) : Bool := decide (fm_AT B p k 0 = 0) || decide (fm_AT B p k 0 = 255)
def fm_fr (B : Nat → Nat) (p first k : Nat) : Bool := decide (k < first) || fm_frac B p k
def fm_fracs (B : Nat → Nat) (p first : Nat) : Bool := fm_all (fm_WD B p) (fm_fr B p first)
def fm_zb (B : Nat → Nat) (p b : Nat) : Bool := decide (fm_AT B p 0 b = 0)
def fm_tab1 (B : Nat → Nat) (j : Nat) : Bool := fm_fracs B (j + 2) 0 && fm_all 4 (fm_zb B (j + 2))
def fm_tables (B : Nat → Nat) : Bool := fm_fracs B 7 0 && fm_all 4 (fm_tab1 B)
def fm_w1 (B : Nat → Nat) (k : Nat) : Bool := fm_th B (fm_AT B 6 k 1) || decide (nI (fm_AT B 6 k 1) = fm_eg B)
def fm_w2 (B : Nat → Nat) (k : Nat) : Bool := if fm_AT B 6 k 2 < 128 then fm_th B (fm_AT B 6 k 3) else decide (256 * (fm_AT B 6 k 2 - 128) + fm_AT B 6 k 3 < fm_WD B 7)
def fm_w3 (B : Nat → Nat) (k : Nat) : Bool := decide (fm_AT B 6 k 0 = 128) || decide (k + fm_AT B 6 k 0 + 1 < fm_WD B 6)
def fm_word1 (B : Nat → Nat) (k : Nat) : Bool := if 128 < fm_AT B 6 k 0 then decide (fm_FAR B k < fm_WD B 6) else fm_w1 B k && fm_w2 B k && fm_w3 B k
def fm_rec (B : Nat → Nat) (k b : Nat) : Bool := decide (fm_AT B 8 k b = 0) || fm_th B (fm_AT B 8 k b)
def fm_recipe1 (B : Nat → Nat) (k : Nat) : Bool := fm_th B (fm_AT B 8 k 3) && fm_all 3 (fm_rec B k)
def fm_nz (B : Nat → Nat) (j : Nat) : Bool := decide (fm_WD B (j + 2) ≠ 0)
def fm_few (B : Nat → Nat) : Bool := decide (fm_WD B 0 < 2) || decide (256 < fm_WD B 8) || !(fm_all 4 (fm_nz B))
def fm_fault (B : Nat → Nat) (n : Nat) : Nat :=
  if fm_small B n = false then 1
  else if fm_HF B 3 + 1 < fm_HF B 2 ∨ 255 < fm_HF B 3 then 2
  else if fm_few B = true then 3
  else if fm_HF B 0 ≠ fm_ST B 10 ∨ n ≠ 4 * fm_HF B 0 then 4
  else if nI (fm_WO B 7) < nI 1048576 then 5
  else if fm_all (fm_WD B 1) (fm_size1 B) = false then 6
  else if fm_all (fm_WD B 1) (fun k => fm_tag1 B (fm_HF B 2 + k)) = false then 7
  else if fm_tables B = false then 8
  else if fm_all (fm_WD B 6) (fm_word1 B) = false then 9
  else if fm_all (fm_WD B 8) (fm_recipe1 B) = false then 10
  else if fm_fracs B 9 1 = true then 0 else 11
-- rows of the model
def fm_RB (f : Nat → Int32) (i : Nat) : Nat := (f i).toBitVec.toNat % 256
theorem fm_RB_lt (f : Nat → Int32) (i : Nat) : fm_RB f i < 256 := Nat.mod_lt _ (by decide)
theorem fm_RB_and (f : Nat → Int32) (i : Nat) : f i &&& nI 255 = nI (fm_RB f i) := pk_and (f i) 8 (by decide)
theorem fm_bI_f {b : Bool} (h : fm_bI b = 0) : b = false := by
  cases b
  · rfl
  · exact absurd h (by decide)
theorem fm_bI_t {b : Bool} (h : ¬ fm_bI b = 0) : b = true := by
  cases b
  · exact absurd (by decide) h
  · rfl
theorem fm_bI_z (b : Bool) : narrow .boolean (.int (fm_bI b)) = .int (fm_bI b) := by
  cases b <;> rfl
theorem fm_bI_1 {b : Bool} (h : b = true) : nI 1 = fm_bI b := by rw [h]; rfl
theorem fm_bI_0 {b : Bool} (h : b = false) : nI 0 = fm_bI b := by rw [h]; rfl
theorem fm_HF_lt {B : Nat → Nat} (hB : ∀ i, B i < 256) (k : Nat) : fm_HF B k < 65536 := by
  have h1 := hB (2 * k)
  have h2 := hB (2 * k + 1)
  unfold fm_HF
  omega
theorem fm_WD_le {B : Nat → Nat} (hB : ∀ i, B i < 256) (p : Nat) : fm_WD B p ≤ 65536 := by
  have h1 := fm_HF_lt hB 1
  have h2 := fm_HF_lt hB 3
  have h3 := fm_HF_lt hB (p + 2)
  unfold fm_WD
  split
  · omega
  · split <;> omega
theorem fm_ST_le {B : Nat → Nat} (hB : ∀ i, B i < 256) (p : Nat) : fm_ST B p ≤ 6 + p * 65536 := by
  induction p with
  | zero => exact Nat.le_refl _
  | succ p ih =>
    have h := fm_WD_le hB p
    show fm_ST B p + fm_WD B p ≤ _
    omega
theorem fm_ST_mono {B : Nat → Nat} {p q : Nat} (h : p ≤ q) : fm_ST B p ≤ fm_ST B q := by
  induction h with
  | refl => exact Nat.le_refl _
  | step _ ih => exact Nat.le_trans ih (Nat.le_add_right _ _)
theorem fm_in {B : Nat → Nat} {p k q : Nat} (hk : k < fm_WD B p) (hpq : p < q) : fm_ST B p + k < fm_ST B q :=
  Nat.lt_of_lt_of_le (Nat.add_lt_add_left hk _) (fm_ST_mono (p := p + 1) hpq)
theorem fm_AT_lt {B : Nat → Nat} (hB : ∀ i, B i < 256) (p k b : Nat) : fm_AT B p k b < 256 := hB _
theorem fm_FAR_lt {B : Nat → Nat} (hB : ∀ i, B i < 256) (k : Nat) : fm_FAR B k < 65536 := by
  have h1 := fm_AT_lt hB 6 k 2
  have h2 := fm_AT_lt hB 6 k 3
  unfold fm_FAR
  omega
theorem fm_sub1 {a b : Nat} (h : b ≤ a + 1) : nI a - nI b + nI 1 = nI (a + 1 - b) := by
  have h1 := pk_sub (a := a + 1) (b := b) h
  rw [← h1, ← nI_add, Int32.sub_eq_add_neg, Int32.sub_eq_add_neg, Int32.add_assoc, Int32.add_assoc, Int32.add_comm (-nI b)]
theorem fm_ge {c : Int32} {a : Nat} (ha : a < 2 ^ 31) (h : ¬ c < nI a) : ∃ n : Nat, n < 2 ^ 31 ∧ a ≤ n ∧ c = nI n := by
  have h0 : ¬ c < 0 := fun z => h (Int32.lt_of_lt_of_le z (nI_pos' ha))
  obtain ⟨n, hn, rfl⟩ := nI_of h0
  exact ⟨n, hn, Nat.le_of_not_lt (fun z => h ((nI_ltI hn ha).mpr z)), rfl⟩
theorem fm_thI_n {B : Nat → Nat} {n : Nat} (h : n < 2 ^ 31) : fm_thI B (nI n) = fm_th B n := by
  unfold fm_thI
  rw [nI_clamp h]
  simp [nI_pos h]
theorem fm_thI_lt {B : Nat → Nat} (hB : ∀ i, B i < 256) {c : Int32} (h : c < nI (fm_HF B 2)) : fm_thI B c = false := by
  have h2 := fm_HF_lt hB 2
  unfold fm_thI
  by_cases h0 : c < 0
  · simp [h0]
  · obtain ⟨n, hn, rfl⟩ := nI_of h0
    have h1 := (nI_ltI hn (by omega)).mp h
    rw [nI_clamp hn]
    unfold fm_th
    simp [Nat.not_le.mpr h1]
theorem fm_th_f1 {B : Nat → Nat} {n : Nat} (h : fm_HF B 3 < n) : fm_th B n = false := by
  unfold fm_th
  simp [Nat.not_le.mpr h]
theorem fm_th_f2 {B : Nat → Nat} {n : Nat} (h : fm_AT B 1 (n - fm_HF B 2) 0 ≤ 0) : fm_th B n = false := by
  unfold fm_th
  simp [Nat.not_lt.mpr h]
theorem fm_th_t {B : Nat → Nat} {n : Nat} (h1 : fm_HF B 2 ≤ n) (h2 : n ≤ fm_HF B 3) (h : ¬ fm_AT B 1 (n - fm_HF B 2) 0 ≤ 0) : fm_th B n = true := by
  unfold fm_th
  simp [h1, h2, Nat.lt_of_not_le h]
theorem fm_WD1 (B : Nat → Nat) : fm_WD B 1 = fm_HF B 3 + 1 - fm_HF B 2 := rfl
theorem fm_tag_lt (B : Nat → Nat) (c : Nat) : fm_tag B c < 4 := Nat.mod_lt _ (by decide)
theorem fm_rest_lt {B : Nat → Nat} (hB : ∀ i, B i < 256) (c : Nat) : fm_rest B c < 256 := hB _
theorem fm_th_in {B : Nat → Nat} {n : Nat} (h : fm_th B n = true) : fm_HF B 2 ≤ n ∧ n ≤ fm_HF B 3 ∧ 0 < fm_AT B 1 (n - fm_HF B 2) 0 := by
  unfold fm_th at h
  simpa [Bool.and_eq_true, and_assoc] using h
/-- a character of bc .. ec has its word in the file -/
theorem fm_cin {B : Nat → Nat} {c : Nat} (hL : fm_Len B) (h1 : fm_HF B 2 ≤ c) (h2 : c ≤ fm_HF B 3) : fm_ST B 1 + (c - fm_HF B 2) < 2048 := by
  have h := fm_in (B := B) (p := 1) (k := c - fm_HF B 2) (q := 10) (by rw [fm_WD1]; omega) (by decide)
  have h3 := hL.2.2.2
  omega
theorem fm_pin {B : Nat → Nat} {p k : Nat} (hL : fm_Len B) (hp : p < 10) (hk : k < fm_WD B p) : fm_ST B p + k < 2048 := by
  have h := fm_in (B := B) (p := p) (k := k) (q := 10) hk hp
  have h3 := hL.2.2.2
  omega
theorem fm_all_lt {B : Nat → Nat} {p n first : Nat} (h : n ≤ first) : fm_all n (fm_fr B p first) = true :=
  fm_all_iff.mpr (fun k hk => by simp [fm_fr, show k < first by omega])
theorem fm_lead_s {B : Nat → Nat} {c i x : Nat} (h : i < 256) : fm_lead B c (256 - i) x = if x = c then false else if fm_th B x = false ∨ fm_tag B x ≠ 2 then true else fm_lead B c (256 - (i + 1)) (fm_rest B x) := by
  rw [show 256 - i = (256 - (i + 1)) + 1 by omega]
  rfl
theorem fm_and_z (x y : Bool) (h : x = false) : nI 0 = fm_bI (x && y) := by rw [h]; rfl
theorem fm_and_t {x y : Bool} (h : x = true) (h2 : y = true) : nI 1 = fm_bI (x && y) := by rw [h, h2]; rfl
theorem fm_and_f {x y : Bool} (h2 : y = false) : nI 0 = fm_bI (x && y) := by rw [h2, Bool.and_false]; rfl
theorem fm_stT {n : Nat} {p : Nat → Bool} (h1 : fm_all n p = true) (h2 : p n = true) : nI 1 = fm_bI (fm_all (n + 1) p) := by rw [fm_all, h1, h2]; rfl
theorem fm_stF1 {n : Nat} {p : Nat → Bool} (h1 : fm_all n p = false) : nI 0 = fm_bI (fm_all (n + 1) p) := by rw [fm_all, h1]; rfl
theorem fm_stF2 {n : Nat} {p : Nat → Bool} (h2 : p n = false) : nI 0 = fm_bI (fm_all (n + 1) p) := by rw [fm_all, h2, Bool.and_false]; rfl
theorem fm_st0 {n : Nat} {p : Nat → Bool} (h2 : p n = true) : fm_bI (fm_all n p) = fm_bI (fm_all (n + 1) p) := by rw [fm_all, h2, Bool.and_true]
theorem fm_tag1_t {B : Nat → Nat} {c : Nat} (h1 : fm_tag B c = 1 → fm_rest B c < fm_WD B 6) (h3 : fm_tag B c = 3 → fm_rest B c < fm_WD B 8) (h2 : fm_tag B c = 2 → fm_larger B c = true) : fm_tag1 B c = true := by
  unfold fm_tag1
  by_cases e1 : fm_tag B c = 1
  · simp [e1, h1 e1]
  · by_cases e2 : fm_tag B c = 2
    · simp [e2, h2 e2]
    · by_cases e3 : fm_tag B c = 3
      · simp [e3, h3 e3]
      · simp [e1, e2, e3]
theorem fm_tag1_f {B : Nat → Nat} {c : Nat} (h : fm_th B c = true) (h1 : (fm_tag B c = 1 ∧ fm_WD B 6 ≤ fm_rest B c) ∨ (fm_tag B c = 3 ∧ fm_WD B 8 ≤ fm_rest B c) ∨ (fm_tag B c = 2 ∧ fm_larger B c = false)) : fm_tag1 B c = false := by
  unfold fm_tag1
  rcases h1 with ⟨a, b⟩ | ⟨a, b⟩ | ⟨a, b⟩
  · simp [h, a, Nat.not_lt.mpr b]
  · simp [h, a, Nat.not_lt.mpr b]
  · simp [h, a, b]
theorem fm_tag1_0 {B : Nat → Nat} {c : Nat} (h : fm_th B c = false) : fm_tag1 B c = true := by
  unfold fm_tag1
  simp [h]
theorem fm_all_le {n k : Nat} {p : Nat → Bool} (hk : k ≤ n) (h : fm_all k p = false) : fm_all n p = false := by
  cases hq : fm_all n p with
  | false => rfl
  | true => rw [fm_all_iff.mpr (fun j hj => fm_all_iff.mp hq j (Nat.lt_of_lt_of_le hj hk))] at h; cases h
theorem fm_or (a b : Nat) : nI a ||| nI b = nI (a ||| b) := by
  apply Int32.toBitVec_inj.mp
  apply BitVec.eq_of_toNat_eq
  simp [nI, Nat.or_mod_two_pow]
theorem fm_shor {v b : Nat} (hv : v < 16777216) (hb : b < 256) : (nI v <<< (nI 8 &&& 31)) ||| nI b = nI (v * 256 + b) := by
  rw [pk_shlN (n := v) (nI 8 &&& 31) 8 (by decide) (by omega), fm_or]
  congr 1
  have h := Nat.shiftLeft_add_eq_or_of_lt (i := 8) (by omega : b < 2 ^ 8) v
  rw [Nat.shiftLeft_eq] at h
  rw [← h]
theorem fm_four {a b c d : Nat} (ha : a < 256) (hb : b < 256) (hc : c < 256) (hd : d < 256) :
    ((((((((nI 0 <<< (nI 8 &&& 31)) ||| nI a) <<< (nI 8 &&& 31)) ||| nI b) <<< (nI 8 &&& 31)) ||| nI c) <<< (nI 8 &&& 31)) ||| nI d) = nI (a * 16777216 + b * 65536 + c * 256 + d) := by
  rw [fm_shor (by omega) ha, fm_shor (by omega) hb, fm_shor (by omega) hc, fm_shor (by omega) hd]
  exact congrArg nI (by omega)
theorem fm_tabs_s {B : Nat → Nat} {j : Nat} (x : Bool) : ((x && fm_all j (fm_tab1 B)) && (fm_fracs B (j + 2) 0 && fm_all 4 (fm_zb B (j + 2)))) = (x && fm_all (j + 1) (fm_tab1 B)) := by
  rw [fm_all, Bool.and_assoc]
  rfl
theorem fm_recs_s {B : Nat → Nat} {i : Nat} : (fm_all i (fm_recipe1 B) && (fm_th B (fm_AT B 8 i 3) && fm_all 3 (fm_rec B i))) = fm_all (i + 1) (fm_recipe1 B) := rfl
theorem fm_bb {x y : Bool} (h : x = y) : fm_bI x = fm_bI y := by rw [h]
/-- a conjunction's last step: 1 or 0 -/
theorem fm_cT {x y : Bool} (h1 : x = true) (h2 : y = true) : nI 1 = fm_bI (x && y) := by rw [h1, h2]; rfl
theorem fm_cF1 {x y : Bool} (h1 : x = false) : nI 0 = fm_bI (x && y) := by rw [h1]; rfl
theorem fm_cF2 {x y : Bool} (h2 : y = false) : nI 0 = fm_bI (x && y) := by rw [h2, Bool.and_false]; rfl
theorem fm_iT {x y : Bool} {n : Nat} {p : Nat → Bool} (h1 : (x && (y && fm_all n p)) = true) (h2 : p n = true) : nI 1 = fm_bI (x && (y && fm_all (n + 1) p)) := by
  rw [fm_all, h2, Bool.and_true, h1]; rfl
theorem fm_iF1 {x y : Bool} {n : Nat} {p : Nat → Bool} (h1 : (x && (y && fm_all n p)) = false) : nI 0 = fm_bI (x && (y && fm_all (n + 1) p)) := by
  rw [fm_all, ← Bool.and_assoc, ← Bool.and_assoc, Bool.and_assoc x, h1]; rfl
theorem fm_iF2 {x y : Bool} {n : Nat} {p : Nat → Bool} (h2 : p n = false) : nI 0 = fm_bI (x && (y && fm_all (n + 1) p)) := by
  rw [fm_all, h2]; simp; rfl
theorem fm_df {P : Prop} [Decidable P] (h : ¬ P) : decide P = false := decide_eq_false h
theorem fm_fr_t {B : Nat → Nat} {p first k : Nat} (h : fm_AT B p k 0 = 0 ∨ fm_AT B p k 0 = 255) : fm_fr B p first k = true := by
  unfold fm_fr fm_frac
  rcases h with h | h <;> simp [h]
theorem fm_fr_f {B : Nat → Nat} {p first k : Nat} (h0 : first ≤ k) (h1 : fm_AT B p k 0 ≠ 0) (h2 : fm_AT B p k 0 ≠ 255) : fm_fr B p first k = false := by
  unfold fm_fr fm_frac
  simp [h1, h2, h0]
theorem fm_w2_1 {B : Nat → Nat} {k : Nat} {x : Bool} (h : ¬ 128 ≤ fm_AT B 6 k 2) (h2 : fm_th B (fm_AT B 6 k 3) = x) : fm_w2 B k = x := by
  unfold fm_w2
  rw [if_pos (Nat.lt_of_not_le h)]
  exact h2
theorem fm_w2_t {B : Nat → Nat} {k : Nat} (h : 128 ≤ fm_AT B 6 k 2) (h2 : ¬ fm_WD B 7 ≤ 256 * (fm_AT B 6 k 2 - 128) + fm_AT B 6 k 3) : fm_w2 B k = true := by
  unfold fm_w2
  rw [if_neg (Nat.not_lt.mpr h)]
  exact decide_eq_true (Nat.lt_of_not_le h2)
theorem fm_w2_f {B : Nat → Nat} {k : Nat} (h : 128 ≤ fm_AT B 6 k 2) (h2 : fm_WD B 7 ≤ 256 * (fm_AT B 6 k 2 - 128) + fm_AT B 6 k 3) : fm_w2 B k = false := by
  unfold fm_w2
  rw [if_neg (Nat.not_lt.mpr h)]
  exact decide_eq_false (Nat.not_lt.mpr h2)
theorem fm_fracs_x {B : Nat → Nat} {p first i : Nat} (h : fm_WD B p ≤ i) (hi : i ≤ fm_WD B p ∨ i = first) : fm_all i (fm_fr B p first) = fm_fracs B p first := by
  unfold fm_fracs
  by_cases hz : i = fm_WD B p
  · rw [hz]
  · rw [fm_all_lt (show i ≤ first by omega), fm_all_lt (show fm_WD B p ≤ first by omega)]
end
section
theorem d_MO_half_0 : decode b_MO_half 0 = .ok (.sipush 256, 3) := by decide +kernel
theorem d_MO_half_3 : decode b_MO_half 3 = .ok (.aload_n 0, 1) := by decide +kernel
theorem d_MO_half_4 : decode b_MO_half 4 = .ok (.iconst 2, 1) := by decide +kernel
theorem d_MO_half_5 : decode b_MO_half 5 = .ok (.iload_n 1, 1) := by decide +kernel
theorem d_MO_half_6 : decode b_MO_half 6 = .ok (.imul, 1) := by decide +kernel
theorem d_MO_half_7 : decode b_MO_half 7 = .ok (.baload, 1) := by decide +kernel
theorem d_MO_half_8 : decode b_MO_half 8 = .ok (.sipush 255, 3) := by decide +kernel
theorem d_MO_half_11 : decode b_MO_half 11 = .ok (.iand, 1) := by decide +kernel
theorem d_MO_half_12 : decode b_MO_half 12 = .ok (.imul, 1) := by decide +kernel
theorem d_MO_half_13 : decode b_MO_half 13 = .ok (.aload_n 0, 1) := by decide +kernel
theorem d_MO_half_14 : decode b_MO_half 14 = .ok (.iconst 2, 1) := by decide +kernel
theorem d_MO_half_15 : decode b_MO_half 15 = .ok (.iload_n 1, 1) := by decide +kernel
theorem d_MO_half_16 : decode b_MO_half 16 = .ok (.imul, 1) := by decide +kernel
theorem d_MO_half_17 : decode b_MO_half 17 = .ok (.iconst 1, 1) := by decide +kernel
theorem d_MO_half_18 : decode b_MO_half 18 = .ok (.iadd, 1) := by decide +kernel
theorem d_MO_half_19 : decode b_MO_half 19 = .ok (.baload, 1) := by decide +kernel
theorem d_MO_half_20 : decode b_MO_half 20 = .ok (.sipush 255, 3) := by decide +kernel
theorem d_MO_half_23 : decode b_MO_half 23 = .ok (.iand, 1) := by decide +kernel
theorem d_MO_half_24 : decode b_MO_half 24 = .ok (.iadd, 1) := by decide +kernel
theorem d_MO_half_25 : decode b_MO_half 25 = .ok (.ireturn, 1) := by decide +kernel
set_option maxHeartbeats 4000000 in
set_option maxRecDepth 100000 in
theorem c_MO_half (l : Launch) (dC : Nat → ClassId) (dI : Nat → Nat → Nat) (fa : Nat) (cB : ClassId) (f : Nat → Int32) (k : Nat) (hk : k < 16) : fm_M l (dC, dI) y_MO_half w_MO_half ({ frames := 0, cells := 0, slots := 0, locals := 0 }) [.ref fa, .int (nI (k))] [(fa, .inl (cB, 8192, .inl (f)))] [(cB, .byte)] (nI (fm_HF (fm_RB f) k)) := by
  refine Met.ofW (cc := b_MO_half) (maxL := 2) (ret := (some .int)) (by decide) rfl ?_
  intro pg ev s m args below meth cd s₁ BD hml hv
  obtain ⟨rfl, hP, hK⟩ := hv
  have hx := BD.exec
  have hb := BD.bytes
  have hr := BD.returns
  have hts := atoms_spec (ws := w_MO_half) BD.pre
  have ht : ∀ w ∈ fm_T, w.before _ s = true := fun w h => hts w (List.mem_cons_of_mem _ h)
  have hown : s.vm.findClass R_MO = some m.cls := findClass_of_methodNamed BD.named
  have hlocks := BD.notSynchronized
  have S : CallFix pg m cd b_MO_half 2 s _ w_MO_half R_MO := ⟨hx, hb, hml, hown, hts⟩
  have hl := lv_entry ([.ref fa, .int (nI (k))]) (n := 2) (Nat.le_of_ble_eq_true rfl)
  rw [lg_entry_eq]
  generalize (lg_sl ([.ref fa, .int (nI (k))]) ++ List.replicate (2 - (lg_sl ([.ref fa, .int (nI (k))])).length) Slot.unset).toArray = ls at hl ⊢
  have hl : lv_has ls 2 [(0, .ref fa), (1, .int (nI (k)))] := hl
  refine lv_sipush (v := nI (256)) hx hb d_MO_half_0 (by decide) ?_
  refine lv_aload_n hx hb d_MO_half_3 rfl (lv_at hl 0 rfl) ?_
  refine lv_iconst (v := nI (2)) hx hb d_MO_half_4 (by decide) ?_
  refine lv_iload_n hx hb d_MO_half_5 rfl (lv_at hl 1 rfl) ?_
  refine lv_imul hx hb d_MO_half_6 ?_
  refine fm_tw (z := nI (2 * k)) (pk_mul _ _) ?_
  refine va_bald hx hb hK hP 0 0 rfl rfl (vp_in_nI (by omega) (by omega)) d_MO_half_7 ?_
  refine fm_tw (z := f (2 * k)) (by rw [nI_clamp (by omega)]) ?_
  refine lv_sipush (v := nI (255)) hx hb d_MO_half_8 (by decide) ?_
  refine lv_iand hx hb d_MO_half_11 ?_
  refine fm_tw (z := nI (fm_RB f (2 * k))) (fm_RB_and _ _) ?_
  refine lv_imul hx hb d_MO_half_12 ?_
  refine fm_tw (z := nI (256 * (fm_RB f (2 * k)))) (pk_mul _ _) ?_
  refine lv_aload_n hx hb d_MO_half_13 rfl (lv_at hl 0 rfl) ?_
  refine lv_iconst (v := nI (2)) hx hb d_MO_half_14 (by decide) ?_
  refine lv_iload_n hx hb d_MO_half_15 rfl (lv_at hl 1 rfl) ?_
  refine lv_imul hx hb d_MO_half_16 ?_
  refine fm_tw (z := nI (2 * k)) (pk_mul _ _) ?_
  refine lv_iconst (v := nI (1)) hx hb d_MO_half_17 (by decide) ?_
  refine lv_iadd hx hb d_MO_half_18 ?_
  refine fm_tw (z := nI (2 * k + 1)) (nI_add _ _) ?_
  refine va_bald hx hb hK hP 0 0 rfl rfl (vp_in_nI (by omega) (by omega)) d_MO_half_19 ?_
  refine fm_tw (z := f (2 * k + 1)) (by rw [nI_clamp (by omega)]) ?_
  refine lv_sipush (v := nI (255)) hx hb d_MO_half_20 (by decide) ?_
  refine lv_iand hx hb d_MO_half_23 ?_
  refine fm_tw (z := nI (fm_RB f (2 * k + 1))) (fm_RB_and _ _) ?_
  refine lv_iadd hx hb d_MO_half_24 ?_
  refine fm_tw (z := nI (256 * (fm_RB f (2 * k)) + fm_RB f (2 * k + 1))) (nI_add _ _) ?_
  exact W.iret hx hb hr (fun t ht hW => ⟨_, rfl, rfl, ht⟩) (fun q hq => by cases hq) d_MO_half_25
theorem d_MO_words_0 : decode b_MO_words 0 = .ok (.iload_n 1, 1) := by decide +kernel
theorem d_MO_words_1 : decode b_MO_words 1 = .ok (.ifCond .ne 11, 3) := by decide +kernel
theorem d_MO_words_4 : decode b_MO_words 4 = .ok (.aload_n 0, 1) := by decide +kernel
theorem d_MO_words_5 : decode b_MO_words 5 = .ok (.iconst 1, 1) := by decide +kernel
theorem d_MO_words_6 : decode b_MO_words 6 = .ok (.invokestatic 33, 3) := by decide +kernel
theorem d_MO_words_9 : decode b_MO_words 9 = .ok (.goto 31, 3) := by decide +kernel
theorem d_MO_words_12 : decode b_MO_words 12 = .ok (.iload_n 1, 1) := by decide +kernel
theorem d_MO_words_13 : decode b_MO_words 13 = .ok (.iconst 1, 1) := by decide +kernel
theorem d_MO_words_14 : decode b_MO_words 14 = .ok (.if_icmp .ne 19, 3) := by decide +kernel
theorem d_MO_words_17 : decode b_MO_words 17 = .ok (.aload_n 0, 1) := by decide +kernel
theorem d_MO_words_18 : decode b_MO_words 18 = .ok (.iconst 3, 1) := by decide +kernel
theorem d_MO_words_19 : decode b_MO_words 19 = .ok (.invokestatic 33, 3) := by decide +kernel
theorem d_MO_words_22 : decode b_MO_words 22 = .ok (.aload_n 0, 1) := by decide +kernel
theorem d_MO_words_23 : decode b_MO_words 23 = .ok (.iconst 2, 1) := by decide +kernel
theorem d_MO_words_24 : decode b_MO_words 24 = .ok (.invokestatic 33, 3) := by decide +kernel
theorem d_MO_words_27 : decode b_MO_words 27 = .ok (.isub, 1) := by decide +kernel
theorem d_MO_words_28 : decode b_MO_words 28 = .ok (.iconst 1, 1) := by decide +kernel
theorem d_MO_words_29 : decode b_MO_words 29 = .ok (.iadd, 1) := by decide +kernel
theorem d_MO_words_30 : decode b_MO_words 30 = .ok (.goto 10, 3) := by decide +kernel
theorem d_MO_words_33 : decode b_MO_words 33 = .ok (.aload_n 0, 1) := by decide +kernel
theorem d_MO_words_34 : decode b_MO_words 34 = .ok (.iload_n 1, 1) := by decide +kernel
theorem d_MO_words_35 : decode b_MO_words 35 = .ok (.iconst 2, 1) := by decide +kernel
theorem d_MO_words_36 : decode b_MO_words 36 = .ok (.iadd, 1) := by decide +kernel
theorem d_MO_words_37 : decode b_MO_words 37 = .ok (.invokestatic 33, 3) := by decide +kernel
theorem d_MO_words_40 : decode b_MO_words 40 = .ok (.ireturn, 1) := by decide +kernel
set_option maxHeartbeats 4000000 in
set_option maxRecDepth 100000 in
theorem c_MO_words (l : Launch) (dC : Nat → ClassId) (dI : Nat → Nat → Nat) (fa : Nat) (cB : ClassId) (f : Nat → Int32) (p : Nat) (hp : p < 10) (hq : p = 1 → fm_HF (fm_RB f) 2 ≤ fm_HF (fm_RB f) 3 + 1) : fm_M l (dC, dI) y_MO_words w_MO_words ({ frames := 1, cells := 0, slots := 0, locals := 21 }) [.ref fa, .int (nI (p))] [(fa, .inl (cB, 8192, .inl (f)))] [(cB, .byte)] (nI (fm_WD (fm_RB f) p)) := by
  refine Met.ofW (cc := b_MO_words) (maxL := 2) (ret := (some .int)) (by decide) rfl ?_
  intro pg ev s m args below meth cd s₁ BD hml hv
  obtain ⟨rfl, hP, hK⟩ := hv
  have hx := BD.exec
  have hb := BD.bytes
  have hr := BD.returns
  have hts := atoms_spec (ws := w_MO_words) BD.pre
  have ht : ∀ w ∈ fm_T, w.before _ s = true := fun w h => hts w (List.mem_cons_of_mem _ h)
  have hown : s.vm.findClass R_MO = some m.cls := findClass_of_methodNamed BD.named
  have hlocks := BD.notSynchronized
  have S : CallFix pg m cd b_MO_words 2 s _ w_MO_words R_MO := ⟨hx, hb, hml, hown, hts⟩
  have hl := lv_entry ([.ref fa, .int (nI (p))]) (n := 2) (Nat.le_of_ble_eq_true rfl)
  rw [lg_entry_eq]
  generalize (lg_sl ([.ref fa, .int (nI (p))]) ++ List.replicate (2 - (lg_sl ([.ref fa, .int (nI (p))])).length) Slot.unset).toArray = ls at hl ⊢
  have hl : lv_has ls 2 [(0, .ref fa), (1, .int (nI (p)))] := hl
  refine lv_iload_n hx hb d_MO_words_0 rfl (lv_at hl 1 rfl) ?_
  refine lv_if_ne (tgt := 12) hx hb d_MO_words_1 (by decide) (fun c0 => ?_) (fun c0 => ?_)
  · have c_1 : ¬ (p = 0) := fun z => c0 ((nI_eq (a := p) (b := 0) (by omega) (by omega)).mpr z)
    refine lv_iload_n hx hb d_MO_words_12 rfl (lv_at hl 1 rfl) ?_
    refine lv_iconst (v := nI (1)) hx hb d_MO_words_13 (by decide) ?_
    refine lv_icmp_ne (tgt := 33) hx hb d_MO_words_14 (by decide) (fun c0 => ?_) (fun c0 => ?_)
    · have c_14 : ¬ (p = 1) := fun z => c0 ((nI_eq (a := p) (b := 1) (by omega) (by omega)).mpr z)
      refine lv_aload_n hx hb d_MO_words_33 rfl (lv_at hl 0 rfl) ?_
      refine lv_iload_n hx hb d_MO_words_34 rfl (lv_at hl 1 rfl) ?_
      refine lv_iconst (v := nI (2)) hx hb d_MO_words_35 (by decide) ?_
      refine lv_iadd hx hb d_MO_words_36 ?_
      refine fm_tw (z := nI (p + 2)) (nI_add _ _) ?_
      refine fm_cs S (c_MO_half l dC dI fa cB f (p + 2) (by omega)) rfl rfl k_MO_half q_3_172 ⟨Nat.le_of_ble_eq_true rfl, Nat.le_of_ble_eq_true rfl⟩ (hP.sub [0] rfl) (hK.sub [0] rfl) rfl hl.1 rfl (Nat.le_of_ble_eq_true rfl) ⟨Nat.zero_le _, Nat.zero_le _⟩ d_MO_words_37 ?_
      have f0_37 := fm_HF_lt (fm_RB_lt f) (p + 2)
      exact W.iret hx hb hr (fun t ht hW => ⟨_, rfl, by first | (rw [c_1]; rfl) | (rw [c_14]; rfl) | simp [fm_WD, c_1, c_14], ht⟩) (fun q hq => by cases hq) d_MO_words_40
    · have c_14 : p = 1 := (nI_eq (a := p) (b := 1) (by omega) (by omega)).mp c0
      refine lv_aload_n hx hb d_MO_words_17 rfl (lv_at hl 0 rfl) ?_
      refine lv_iconst (v := nI (3)) hx hb d_MO_words_18 (by decide) ?_
      refine fm_cs S (c_MO_half l dC dI fa cB f 3 (by omega)) rfl rfl k_MO_half q_3_172 ⟨Nat.le_of_ble_eq_true rfl, Nat.le_of_ble_eq_true rfl⟩ (hP.sub [0] rfl) (hK.sub [0] rfl) rfl hl.1 rfl (Nat.le_of_ble_eq_true rfl) ⟨Nat.zero_le _, Nat.zero_le _⟩ d_MO_words_19 ?_
      have f0_19 := fm_HF_lt (fm_RB_lt f) 3
      refine lv_aload_n hx hb d_MO_words_22 rfl (lv_at hl 0 rfl) ?_
      refine lv_iconst (v := nI (2)) hx hb d_MO_words_23 (by decide) ?_
      refine fm_cs S (c_MO_half l dC dI fa cB f 2 (by omega)) rfl rfl k_MO_half q_3_172 ⟨Nat.le_of_ble_eq_true rfl, Nat.le_of_ble_eq_true rfl⟩ (hP.sub [0] rfl) (hK.sub [0] rfl) rfl hl.1 rfl (Nat.le_of_ble_eq_true rfl) ⟨Nat.zero_le _, Nat.zero_le _⟩ d_MO_words_24 ?_
      have f0_24 := fm_HF_lt (fm_RB_lt f) 2
      refine lv_isub hx hb d_MO_words_27 ?_
      refine fm_tw (z := (nI (fm_HF (fm_RB f) 3) - nI (fm_HF (fm_RB f) 2))) (rfl) ?_
      refine lv_iconst (v := nI (1)) hx hb d_MO_words_28 (by decide) ?_
      refine lv_iadd hx hb d_MO_words_29 ?_
      refine fm_tw (z := nI (fm_HF (fm_RB f) 3 + 1 - fm_HF (fm_RB f) 2)) (fm_sub1 (hq c_14)) ?_
      refine lv_goto (tgt := 40) hx hb d_MO_words_30 (by decide) ?_
      exact W.iret hx hb hr (fun t ht hW => ⟨_, rfl, by first | (rw [c_1]; rfl) | (rw [c_14]; rfl) | simp [fm_WD, c_1, c_14], ht⟩) (fun q hq => by cases hq) d_MO_words_40
  · have c_1 : p = 0 := (nI_eq (a := p) (b := 0) (by omega) (by omega)).mp c0
    refine lv_aload_n hx hb d_MO_words_4 rfl (lv_at hl 0 rfl) ?_
    refine lv_iconst (v := nI (1)) hx hb d_MO_words_5 (by decide) ?_
    refine fm_cs S (c_MO_half l dC dI fa cB f 1 (by omega)) rfl rfl k_MO_half q_3_172 ⟨Nat.le_of_ble_eq_true rfl, Nat.le_of_ble_eq_true rfl⟩ (hP.sub [0] rfl) (hK.sub [0] rfl) rfl hl.1 rfl (Nat.le_of_ble_eq_true rfl) ⟨Nat.zero_le _, Nat.zero_le _⟩ d_MO_words_6 ?_
    have f0_6 := fm_HF_lt (fm_RB_lt f) 1
    refine lv_goto (tgt := 40) hx hb d_MO_words_9 (by decide) ?_
    exact W.iret hx hb hr (fun t ht hW => ⟨_, rfl, by first | (rw [c_1]; rfl) | (rw [c_14]; rfl) | simp [fm_WD, c_1, c_14], ht⟩) (fun q hq => by cases hq) d_MO_words_40
theorem d_MO_start_0 : decode b_MO_start 0 = .ok (.bipush 6, 2) := by decide +kernel
theorem d_MO_start_2 : decode b_MO_start 2 = .ok (.istore_n 2, 1) := by decide +kernel
theorem d_MO_start_3 : decode b_MO_start 3 = .ok (.iconst 0, 1) := by decide +kernel
theorem d_MO_start_4 : decode b_MO_start 4 = .ok (.istore_n 3, 1) := by decide +kernel
theorem d_MO_start_5 : decode b_MO_start 5 = .ok (.iload_n 3, 1) := by decide +kernel
theorem d_MO_start_6 : decode b_MO_start 6 = .ok (.iload_n 1, 1) := by decide +kernel
theorem d_MO_start_7 : decode b_MO_start 7 = .ok (.if_icmp .ge 17, 3) := by decide +kernel
theorem d_MO_start_10 : decode b_MO_start 10 = .ok (.iload_n 2, 1) := by decide +kernel
theorem d_MO_start_11 : decode b_MO_start 11 = .ok (.aload_n 0, 1) := by decide +kernel
theorem d_MO_start_12 : decode b_MO_start 12 = .ok (.iload_n 3, 1) := by decide +kernel
theorem d_MO_start_13 : decode b_MO_start 13 = .ok (.invokestatic 37, 3) := by decide +kernel
theorem d_MO_start_16 : decode b_MO_start 16 = .ok (.iadd, 1) := by decide +kernel
theorem d_MO_start_17 : decode b_MO_start 17 = .ok (.istore_n 2, 1) := by decide +kernel
theorem d_MO_start_18 : decode b_MO_start 18 = .ok (.iinc 3 1, 3) := by decide +kernel
theorem d_MO_start_21 : decode b_MO_start 21 = .ok (.goto (-16), 3) := by decide +kernel
theorem d_MO_start_24 : decode b_MO_start 24 = .ok (.iload_n 2, 1) := by decide +kernel
theorem d_MO_start_25 : decode b_MO_start 25 = .ok (.ireturn, 1) := by decide +kernel
set_option maxHeartbeats 4000000 in
set_option maxRecDepth 100000 in
theorem c_MO_start (l : Launch) (dC : Nat → ClassId) (dI : Nat → Nat → Nat) (fa : Nat) (cB : ClassId) (f : Nat → Int32) (p : Nat) (hp : p ≤ 10) (hq : fm_HF (fm_RB f) 2 ≤ fm_HF (fm_RB f) 3 + 1) : fm_M l (dC, dI) y_MO_start w_MO_start ({ frames := 2, cells := 0, slots := 0, locals := 42 }) [.ref fa, .int (nI (p))] [(fa, .inl (cB, 8192, .inl (f)))] [(cB, .byte)] (nI (fm_ST (fm_RB f) p)) := by
  refine Met.ofW (cc := b_MO_start) (maxL := 4) (ret := (some .int)) (by decide) rfl ?_
  intro pg ev s m args below meth cd s₁ BD hml hv
  obtain ⟨rfl, hP, hK⟩ := hv
  have hx := BD.exec
  have hb := BD.bytes
  have hr := BD.returns
  have hts := atoms_spec (ws := w_MO_start) BD.pre
  have ht : ∀ w ∈ fm_T, w.before _ s = true := fun w h => hts w (List.mem_cons_of_mem _ h)
  have hown : s.vm.findClass R_MO = some m.cls := findClass_of_methodNamed BD.named
  have hlocks := BD.notSynchronized
  have S : CallFix pg m cd b_MO_start 4 s _ w_MO_start R_MO := ⟨hx, hb, hml, hown, hts⟩
  have hl := lv_entry ([.ref fa, .int (nI (p))]) (n := 4) (Nat.le_of_ble_eq_true rfl)
  rw [lg_entry_eq]
  generalize (lg_sl ([.ref fa, .int (nI (p))]) ++ List.replicate (4 - (lg_sl ([.ref fa, .int (nI (p))])).length) Slot.unset).toArray = ls at hl ⊢
  have hl : lv_has ls 4 [(0, .ref fa), (1, .int (nI (p)))] := hl
  refine lv_bipush (v := nI (6)) hx hb d_MO_start_0 (by decide) ?_
  refine lv_istore_n (lv' := [(2, .int (nI (6))), (0, .ref fa), (1, .int (nI (p)))]) hx hb d_MO_start_2 rfl hl (by decide) rfl (fun ls hl => ?_)
  refine lv_iconst (v := nI (0)) hx hb d_MO_start_3 (by decide) ?_
  refine lv_istore_n (lv' := [(3, .int (nI (0))), (2, .int (nI (6))), (0, .ref fa), (1, .int (nI (p)))]) hx hb d_MO_start_4 rfl hl (by decide) rfl (fun ls hl => ?_)
  refine fm_loop1 (LV := fun (i : Nat) => [(0, .ref fa), (1, .int (nI (p))), (2, .int (nI (fm_ST (fm_RB f) i))), (3, .int (nI (i)))]) (I := fun (i : Nat) => i ≤ p) (μ := fun (i : Nat) => p - i) ?_ 0 (Nat.zero_le _) ls (lv_sub hl [2, 3, 1, 0] rfl)
  intro i hI_5 ih_5 ls hl
  have hl : lv_has ls 4 [(0, .ref fa), (1, .int (nI (p))), (2, .int (nI (fm_ST (fm_RB f) i))), (3, .int (nI (i)))] := hl
  refine lv_iload_n hx hb d_MO_start_5 rfl (lv_at hl 3 rfl) ?_
  refine lv_iload_n hx hb d_MO_start_6 rfl (lv_at hl 1 rfl) ?_
  refine lv_icmp_ge (tgt := 24) hx hb d_MO_start_7 (by decide) (fun c0 => ?_) (fun c0 => ?_)
  · have c_7 : p ≤ i := (nI_leI (a := p) (b := i) (by omega) (by omega)).mp c0
    refine lv_iload_n hx hb d_MO_start_24 rfl (lv_at hl 2 rfl) ?_
    exact W.iret hx hb hr (fun t ht hW => ⟨_, rfl, by rw [show p = i by omega], ht⟩) (fun q hq => by cases hq) d_MO_start_25
  · have c_7 : ¬ (p ≤ i) := fun z => c0 ((nI_leI (a := p) (b := i) (by omega) (by omega)).mpr z)
    refine lv_iload_n hx hb d_MO_start_10 rfl (lv_at hl 2 rfl) ?_
    refine lv_aload_n hx hb d_MO_start_11 rfl (lv_at hl 0 rfl) ?_
    refine lv_iload_n hx hb d_MO_start_12 rfl (lv_at hl 3 rfl) ?_
    refine fm_cs S (c_MO_words l dC dI fa cB f i (by omega) (fun _ => hq)) rfl rfl k_MO_words q_3_175 ⟨Nat.le_of_ble_eq_true rfl, Nat.le_of_ble_eq_true rfl⟩ (hP.sub [0] rfl) (hK.sub [0] rfl) rfl hl.1 rfl (Nat.le_of_ble_eq_true rfl) ⟨Nat.zero_le _, Nat.zero_le _⟩ d_MO_start_13 ?_
    have f0_13 := fm_WD_le (fm_RB_lt f) i
    refine lv_iadd hx hb d_MO_start_16 ?_
    refine fm_tw (z := nI (fm_ST (fm_RB f) i + fm_WD (fm_RB f) i)) (nI_add _ _) ?_
    refine lv_istore_n (lv' := [(2, .int (nI (fm_ST (fm_RB f) i + fm_WD (fm_RB f) i))), (0, .ref fa), (1, .int (nI (p))), (3, .int (nI (i)))]) hx hb d_MO_start_17 rfl hl (by decide) rfl (fun ls hl => ?_)
    refine lv_iinc (v := nI (i + 1)) (lv' := [(3, .int (nI (i + 1))), (2, .int (nI (fm_ST (fm_RB f) i + fm_WD (fm_RB f) i))), (0, .ref fa), (1, .int (nI (p)))]) hx hb d_MO_start_18 hl (k := 3) rfl (nI_1 _) (by decide) rfl (fun ls hl => ?_)
    refine lv_goto (tgt := 5) hx hb d_MO_start_21 (by decide) ?_
    exact ih_5 (i + 1) ls (by omega) (by omega) (lv_sub hl [2, 3, 1, 0] rfl)
theorem d_MO_at_0 : decode b_MO_at 0 = .ok (.aload_n 0, 1) := by decide +kernel
theorem d_MO_at_1 : decode b_MO_at 1 = .ok (.iconst 4, 1) := by decide +kernel
theorem d_MO_at_2 : decode b_MO_at 2 = .ok (.aload_n 0, 1) := by decide +kernel
theorem d_MO_at_3 : decode b_MO_at 3 = .ok (.iload_n 1, 1) := by decide +kernel
theorem d_MO_at_4 : decode b_MO_at 4 = .ok (.invokestatic 40, 3) := by decide +kernel
theorem d_MO_at_7 : decode b_MO_at 7 = .ok (.iload_n 2, 1) := by decide +kernel
theorem d_MO_at_8 : decode b_MO_at 8 = .ok (.iadd, 1) := by decide +kernel
theorem d_MO_at_9 : decode b_MO_at 9 = .ok (.imul, 1) := by decide +kernel
theorem d_MO_at_10 : decode b_MO_at 10 = .ok (.iload_n 3, 1) := by decide +kernel
theorem d_MO_at_11 : decode b_MO_at 11 = .ok (.iadd, 1) := by decide +kernel
theorem d_MO_at_12 : decode b_MO_at 12 = .ok (.baload, 1) := by decide +kernel
theorem d_MO_at_13 : decode b_MO_at 13 = .ok (.sipush 255, 3) := by decide +kernel
theorem d_MO_at_16 : decode b_MO_at 16 = .ok (.iand, 1) := by decide +kernel
theorem d_MO_at_17 : decode b_MO_at 17 = .ok (.ireturn, 1) := by decide +kernel
set_option maxHeartbeats 4000000 in
set_option maxRecDepth 100000 in
theorem c_MO_at (l : Launch) (dC : Nat → ClassId) (dI : Nat → Nat → Nat) (fa : Nat) (cB : ClassId) (f : Nat → Int32) (p : Nat) (k : Nat) (b : Nat) (hp : p < 10) (hq : fm_HF (fm_RB f) 2 ≤ fm_HF (fm_RB f) 3 + 1) (hr : fm_ST (fm_RB f) p + k < 2048) (hb : b < 4) : fm_M l (dC, dI) y_MO_at w_MO_at ({ frames := 3, cells := 0, slots := 0, locals := 65 }) [.ref fa, .int (nI (p)), .int (nI (k)), .int (nI (b))] [(fa, .inl (cB, 8192, .inl (f)))] [(cB, .byte)] (nI (fm_AT (fm_RB f) p k b)) := by
  refine Met.ofW (cc := b_MO_at) (maxL := 4) (ret := (some .int)) (by decide) rfl ?_
  intro pg ev s m args below meth cd s₁ BD hml hv
  obtain ⟨rfl, hP, hK⟩ := hv
  have hx := BD.exec
  have hb := BD.bytes
  have hr := BD.returns
  have hts := atoms_spec (ws := w_MO_at) BD.pre
  have ht : ∀ w ∈ fm_T, w.before _ s = true := fun w h => hts w (List.mem_cons_of_mem _ h)
  have hown : s.vm.findClass R_MO = some m.cls := findClass_of_methodNamed BD.named
  have hlocks := BD.notSynchronized
  have S : CallFix pg m cd b_MO_at 4 s _ w_MO_at R_MO := ⟨hx, hb, hml, hown, hts⟩
  have hl := lv_entry ([.ref fa, .int (nI (p)), .int (nI (k)), .int (nI (b))]) (n := 4) (Nat.le_of_ble_eq_true rfl)
  rw [lg_entry_eq]
  generalize (lg_sl ([.ref fa, .int (nI (p)), .int (nI (k)), .int (nI (b))]) ++ List.replicate (4 - (lg_sl ([.ref fa, .int (nI (p)), .int (nI (k)), .int (nI (b))])).length) Slot.unset).toArray = ls at hl ⊢
  have hl : lv_has ls 4 [(0, .ref fa), (1, .int (nI (p))), (2, .int (nI (k))), (3, .int (nI (b)))] := hl
  refine lv_aload_n hx hb d_MO_at_0 rfl (lv_at hl 0 rfl) ?_
  refine lv_iconst (v := nI (4)) hx hb d_MO_at_1 (by decide) ?_
  refine lv_aload_n hx hb d_MO_at_2 rfl (lv_at hl 0 rfl) ?_
  refine lv_iload_n hx hb d_MO_at_3 rfl (lv_at hl 1 rfl) ?_
  refine fm_cs S (c_MO_start l dC dI fa cB f p (by omega) (hq)) rfl rfl k_MO_start q_3_178 ⟨Nat.le_of_ble_eq_true rfl, Nat.le_of_ble_eq_true rfl⟩ (hP.sub [0] rfl) (hK.sub [0] rfl) rfl hl.1 rfl (Nat.le_of_ble_eq_true rfl) ⟨Nat.zero_le _, Nat.zero_le _⟩ d_MO_at_4 ?_
  have f0_4 := fm_ST_le (fm_RB_lt f) p
  refine lv_iload_n hx hb d_MO_at_7 rfl (lv_at hl 2 rfl) ?_
  refine lv_iadd hx hb d_MO_at_8 ?_
  refine fm_tw (z := nI (fm_ST (fm_RB f) p + k)) (nI_add _ _) ?_
  refine lv_imul hx hb d_MO_at_9 ?_
  refine fm_tw (z := nI (4 * (fm_ST (fm_RB f) p + k))) (pk_mul _ _) ?_
  refine lv_iload_n hx hb d_MO_at_10 rfl (lv_at hl 3 rfl) ?_
  refine lv_iadd hx hb d_MO_at_11 ?_
  refine fm_tw (z := nI (4 * (fm_ST (fm_RB f) p + k) + b)) (nI_add _ _) ?_
  refine va_bald hx hb hK hP 0 0 rfl rfl (vp_in_nI (by omega) (by omega)) d_MO_at_12 ?_
  refine fm_tw (z := f (4 * (fm_ST (fm_RB f) p + k) + b)) (by rw [nI_clamp (by omega)]) ?_
  refine lv_sipush (v := nI (255)) hx hb d_MO_at_13 (by decide) ?_
  refine lv_iand hx hb d_MO_at_16 ?_
  refine fm_tw (z := nI (fm_RB f (4 * (fm_ST (fm_RB f) p + k) + b))) (fm_RB_and _ _) ?_
  exact W.iret hx hb hr (fun t ht hW => ⟨_, rfl, rfl, ht⟩) (fun q hq => by cases hq) d_MO_at_17
theorem d_MO_far_0 : decode b_MO_far 0 = .ok (.sipush 256, 3) := by decide +kernel
theorem d_MO_far_3 : decode b_MO_far 3 = .ok (.aload_n 0, 1) := by decide +kernel
theorem d_MO_far_4 : decode b_MO_far 4 = .ok (.bipush 6, 2) := by decide +kernel
theorem d_MO_far_6 : decode b_MO_far 6 = .ok (.iload_n 1, 1) := by decide +kernel
theorem d_MO_far_7 : decode b_MO_far 7 = .ok (.iconst 2, 1) := by decide +kernel
theorem d_MO_far_8 : decode b_MO_far 8 = .ok (.invokestatic 43, 3) := by decide +kernel
theorem d_MO_far_11 : decode b_MO_far 11 = .ok (.imul, 1) := by decide +kernel
theorem d_MO_far_12 : decode b_MO_far 12 = .ok (.aload_n 0, 1) := by decide +kernel
theorem d_MO_far_13 : decode b_MO_far 13 = .ok (.bipush 6, 2) := by decide +kernel
theorem d_MO_far_15 : decode b_MO_far 15 = .ok (.iload_n 1, 1) := by decide +kernel
theorem d_MO_far_16 : decode b_MO_far 16 = .ok (.iconst 3, 1) := by decide +kernel
theorem d_MO_far_17 : decode b_MO_far 17 = .ok (.invokestatic 43, 3) := by decide +kernel
theorem d_MO_far_20 : decode b_MO_far 20 = .ok (.iadd, 1) := by decide +kernel
theorem d_MO_far_21 : decode b_MO_far 21 = .ok (.ireturn, 1) := by decide +kernel
set_option maxHeartbeats 4000000 in
set_option maxRecDepth 100000 in
theorem c_MO_far (l : Launch) (dC : Nat → ClassId) (dI : Nat → Nat → Nat) (fa : Nat) (cB : ClassId) (f : Nat → Int32) (k : Nat) (hq : fm_HF (fm_RB f) 2 ≤ fm_HF (fm_RB f) 3 + 1) (hr : fm_ST (fm_RB f) 6 + k < 2048) : fm_M l (dC, dI) y_MO_far w_MO_far ({ frames := 4, cells := 0, slots := 0, locals := 88 }) [.ref fa, .int (nI (k))] [(fa, .inl (cB, 8192, .inl (f)))] [(cB, .byte)] (nI (fm_FAR (fm_RB f) k)) := by
  refine Met.ofW (cc := b_MO_far) (maxL := 2) (ret := (some .int)) (by decide) rfl ?_
  intro pg ev s m args below meth cd s₁ BD hml hv
  obtain ⟨rfl, hP, hK⟩ := hv
  have hx := BD.exec
  have hb := BD.bytes
  have hr := BD.returns
  have hts := atoms_spec (ws := w_MO_far) BD.pre
  have ht : ∀ w ∈ fm_T, w.before _ s = true := fun w h => hts w (List.mem_cons_of_mem _ h)
  have hown : s.vm.findClass R_MO = some m.cls := findClass_of_methodNamed BD.named
  have hlocks := BD.notSynchronized
  have S : CallFix pg m cd b_MO_far 2 s _ w_MO_far R_MO := ⟨hx, hb, hml, hown, hts⟩
  have hl := lv_entry ([.ref fa, .int (nI (k))]) (n := 2) (Nat.le_of_ble_eq_true rfl)
  rw [lg_entry_eq]
  generalize (lg_sl ([.ref fa, .int (nI (k))]) ++ List.replicate (2 - (lg_sl ([.ref fa, .int (nI (k))])).length) Slot.unset).toArray = ls at hl ⊢
  have hl : lv_has ls 2 [(0, .ref fa), (1, .int (nI (k)))] := hl
  refine lv_sipush (v := nI (256)) hx hb d_MO_far_0 (by decide) ?_
  refine lv_aload_n hx hb d_MO_far_3 rfl (lv_at hl 0 rfl) ?_
  refine lv_bipush (v := nI (6)) hx hb d_MO_far_4 (by decide) ?_
  refine lv_iload_n hx hb d_MO_far_6 rfl (lv_at hl 1 rfl) ?_
  refine lv_iconst (v := nI (2)) hx hb d_MO_far_7 (by decide) ?_
  refine fm_cs S (c_MO_at l dC dI fa cB f 6 k 2 (by omega) (hq) (by omega) (by omega)) rfl rfl k_MO_at q_3_184 ⟨Nat.le_of_ble_eq_true rfl, Nat.le_of_ble_eq_true rfl⟩ (hP.sub [0] rfl) (hK.sub [0] rfl) rfl hl.1 rfl (Nat.le_of_ble_eq_true rfl) ⟨Nat.zero_le _, Nat.zero_le _⟩ d_MO_far_8 ?_
  have f0_8 := fm_AT_lt (fm_RB_lt f) 6 k 2
  refine lv_imul hx hb d_MO_far_11 ?_
  refine fm_tw (z := nI (256 * (fm_AT (fm_RB f) 6 k 2))) (pk_mul _ _) ?_
  refine lv_aload_n hx hb d_MO_far_12 rfl (lv_at hl 0 rfl) ?_
  refine lv_bipush (v := nI (6)) hx hb d_MO_far_13 (by decide) ?_
  refine lv_iload_n hx hb d_MO_far_15 rfl (lv_at hl 1 rfl) ?_
  refine lv_iconst (v := nI (3)) hx hb d_MO_far_16 (by decide) ?_
  refine fm_cs S (c_MO_at l dC dI fa cB f 6 k 3 (by omega) (hq) (by omega) (by omega)) rfl rfl k_MO_at q_3_184 ⟨Nat.le_of_ble_eq_true rfl, Nat.le_of_ble_eq_true rfl⟩ (hP.sub [0] rfl) (hK.sub [0] rfl) rfl hl.1 rfl (Nat.le_of_ble_eq_true rfl) ⟨Nat.zero_le _, Nat.zero_le _⟩ d_MO_far_17 ?_
  have f0_17 := fm_AT_lt (fm_RB_lt f) 6 k 3
  refine lv_iadd hx hb d_MO_far_20 ?_
  refine fm_tw (z := nI (256 * (fm_AT (fm_RB f) 6 k 2) + fm_AT (fm_RB f) 6 k 3)) (nI_add _ _) ?_
  exact W.iret hx hb hr (fun t ht hW => ⟨_, rfl, rfl, ht⟩) (fun q hq => by cases hq) d_MO_far_21
theorem d_MO_isThere_0 : decode b_MO_isThere 0 = .ok (.iload_n 1, 1) := by decide +kernel
theorem d_MO_isThere_1 : decode b_MO_isThere 1 = .ok (.aload_n 0, 1) := by decide +kernel
theorem d_MO_isThere_2 : decode b_MO_isThere 2 = .ok (.iconst 2, 1) := by decide +kernel
theorem d_MO_isThere_3 : decode b_MO_isThere 3 = .ok (.invokestatic 33, 3) := by decide +kernel
theorem d_MO_isThere_6 : decode b_MO_isThere 6 = .ok (.if_icmp .lt 32, 3) := by decide +kernel
theorem d_MO_isThere_9 : decode b_MO_isThere 9 = .ok (.iload_n 1, 1) := by decide +kernel
theorem d_MO_isThere_10 : decode b_MO_isThere 10 = .ok (.aload_n 0, 1) := by decide +kernel
theorem d_MO_isThere_11 : decode b_MO_isThere 11 = .ok (.iconst 3, 1) := by decide +kernel
theorem d_MO_isThere_12 : decode b_MO_isThere 12 = .ok (.invokestatic 33, 3) := by decide +kernel
theorem d_MO_isThere_15 : decode b_MO_isThere 15 = .ok (.if_icmp .gt 23, 3) := by decide +kernel
theorem d_MO_isThere_18 : decode b_MO_isThere 18 = .ok (.aload_n 0, 1) := by decide +kernel
theorem d_MO_isThere_19 : decode b_MO_isThere 19 = .ok (.iconst 1, 1) := by decide +kernel
theorem d_MO_isThere_20 : decode b_MO_isThere 20 = .ok (.iload_n 1, 1) := by decide +kernel
theorem d_MO_isThere_21 : decode b_MO_isThere 21 = .ok (.aload_n 0, 1) := by decide +kernel
theorem d_MO_isThere_22 : decode b_MO_isThere 22 = .ok (.iconst 2, 1) := by decide +kernel
theorem d_MO_isThere_23 : decode b_MO_isThere 23 = .ok (.invokestatic 33, 3) := by decide +kernel
theorem d_MO_isThere_26 : decode b_MO_isThere 26 = .ok (.isub, 1) := by decide +kernel
theorem d_MO_isThere_27 : decode b_MO_isThere 27 = .ok (.iconst 0, 1) := by decide +kernel
theorem d_MO_isThere_28 : decode b_MO_isThere 28 = .ok (.invokestatic 43, 3) := by decide +kernel
theorem d_MO_isThere_31 : decode b_MO_isThere 31 = .ok (.ifCond .le 7, 3) := by decide +kernel
theorem d_MO_isThere_34 : decode b_MO_isThere 34 = .ok (.iconst 1, 1) := by decide +kernel
theorem d_MO_isThere_35 : decode b_MO_isThere 35 = .ok (.goto 4, 3) := by decide +kernel
theorem d_MO_isThere_38 : decode b_MO_isThere 38 = .ok (.iconst 0, 1) := by decide +kernel
theorem d_MO_isThere_39 : decode b_MO_isThere 39 = .ok (.ireturn, 1) := by decide +kernel
set_option maxHeartbeats 4000000 in
set_option maxRecDepth 100000 in
theorem c_MO_isThere (l : Launch) (dC : Nat → ClassId) (dI : Nat → Nat → Nat) (fa : Nat) (cB : ClassId) (f : Nat → Int32) (c : Int32) (hL : fm_Len (fm_RB f)) : fm_M l (dC, dI) y_MO_isThere w_MO_isThere ({ frames := 4, cells := 0, slots := 0, locals := 88 }) [.ref fa, .int (c)] [(fa, .inl (cB, 8192, .inl (f)))] [(cB, .byte)] ((fm_bI (fm_thI (fm_RB f) c))) := by
  refine Met.ofW (cc := b_MO_isThere) (maxL := 2) (ret := (some .boolean)) (by decide) rfl ?_
  intro pg ev s m args below meth cd s₁ BD hml hv
  obtain ⟨rfl, hP, hK⟩ := hv
  have hx := BD.exec
  have hb := BD.bytes
  have hr := BD.returns
  have hts := atoms_spec (ws := w_MO_isThere) BD.pre
  have ht : ∀ w ∈ fm_T, w.before _ s = true := fun w h => hts w (List.mem_cons_of_mem _ h)
  have hown : s.vm.findClass R_MO = some m.cls := findClass_of_methodNamed BD.named
  have hlocks := BD.notSynchronized
  have S : CallFix pg m cd b_MO_isThere 2 s _ w_MO_isThere R_MO := ⟨hx, hb, hml, hown, hts⟩
  have hl := lv_entry ([.ref fa, .int (c)]) (n := 2) (Nat.le_of_ble_eq_true rfl)
  rw [lg_entry_eq]
  generalize (lg_sl ([.ref fa, .int (c)]) ++ List.replicate (2 - (lg_sl ([.ref fa, .int (c)])).length) Slot.unset).toArray = ls at hl ⊢
  have hl : lv_has ls 2 [(0, .ref fa), (1, .int (c))] := hl
  obtain ⟨-, hq, h3, h10⟩ := id hL
  refine lv_iload_n hx hb d_MO_isThere_0 rfl (lv_at hl 1 rfl) ?_
  refine lv_aload_n hx hb d_MO_isThere_1 rfl (lv_at hl 0 rfl) ?_
  refine lv_iconst (v := nI (2)) hx hb d_MO_isThere_2 (by decide) ?_
  refine fm_cs S (c_MO_half l dC dI fa cB f 2 (by omega)) rfl rfl k_MO_half q_3_172 ⟨Nat.le_of_ble_eq_true rfl, Nat.le_of_ble_eq_true rfl⟩ (hP.sub [0] rfl) (hK.sub [0] rfl) rfl hl.1 rfl (Nat.le_of_ble_eq_true rfl) ⟨Nat.zero_le _, Nat.zero_le _⟩ d_MO_isThere_3 ?_
  have f0_3 := fm_HF_lt (fm_RB_lt f) 2
  refine lv_icmp_lt (tgt := 38) hx hb d_MO_isThere_6 (by decide) (fun c0 => ?_) (fun c0 => ?_)
  · have c_6 := c0
    refine lv_iconst (v := nI (0)) hx hb d_MO_isThere_38 (by decide) ?_
    exact W.zret (ty := .boolean) hx hb hr (rfl) (fun t ht hW => ⟨_, rfl, by first | (rw [fm_thI_lt (fm_RB_lt f) c_6]; rfl) | (rw [fm_thI_n hn, fm_th_f1 c_15]; rfl) | (rw [fm_thI_n hn, fm_th_f2 c_31]; rfl), ht⟩) (fun q hq => by cases hq) d_MO_isThere_39
  · have c_6 := c0
    obtain ⟨n, hn, hcn, rfl⟩ := fm_ge (by omega) c_6
    refine lv_iload_n hx hb d_MO_isThere_9 rfl (lv_at hl 1 rfl) ?_
    refine lv_aload_n hx hb d_MO_isThere_10 rfl (lv_at hl 0 rfl) ?_
    refine lv_iconst (v := nI (3)) hx hb d_MO_isThere_11 (by decide) ?_
    refine fm_cs S (c_MO_half l dC dI fa cB f 3 (by omega)) rfl rfl k_MO_half q_3_172 ⟨Nat.le_of_ble_eq_true rfl, Nat.le_of_ble_eq_true rfl⟩ (hP.sub [0] rfl) (hK.sub [0] rfl) rfl hl.1 rfl (Nat.le_of_ble_eq_true rfl) ⟨Nat.zero_le _, Nat.zero_le _⟩ d_MO_isThere_12 ?_
    have f0_12 := fm_HF_lt (fm_RB_lt f) 3
    refine lv_icmp_gt (tgt := 38) hx hb d_MO_isThere_15 (by decide) (fun c0 => ?_) (fun c0 => ?_)
    · have c_15 : fm_HF (fm_RB f) 3 < n := (nI_ltI (a := fm_HF (fm_RB f) 3) (b := n) (by omega) (by omega)).mp c0
      refine lv_iconst (v := nI (0)) hx hb d_MO_isThere_38 (by decide) ?_
      exact W.zret (ty := .boolean) hx hb hr (rfl) (fun t ht hW => ⟨_, rfl, by first | (rw [fm_thI_lt (fm_RB_lt f) c_6]; rfl) | (rw [fm_thI_n hn, fm_th_f1 c_15]; rfl) | (rw [fm_thI_n hn, fm_th_f2 c_31]; rfl), ht⟩) (fun q hq => by cases hq) d_MO_isThere_39
    · have c_15 : ¬ (fm_HF (fm_RB f) 3 < n) := fun z => c0 ((nI_ltI (a := fm_HF (fm_RB f) 3) (b := n) (by omega) (by omega)).mpr z)
      have hin := fm_in (B := fm_RB f) (p := 1) (k := n - fm_HF (fm_RB f) 2) (q := 10) (by rw [fm_WD1]; omega) (by decide)
      refine lv_aload_n hx hb d_MO_isThere_18 rfl (lv_at hl 0 rfl) ?_
      refine lv_iconst (v := nI (1)) hx hb d_MO_isThere_19 (by decide) ?_
      refine lv_iload_n hx hb d_MO_isThere_20 rfl (lv_at hl 1 rfl) ?_
      refine lv_aload_n hx hb d_MO_isThere_21 rfl (lv_at hl 0 rfl) ?_
      refine lv_iconst (v := nI (2)) hx hb d_MO_isThere_22 (by decide) ?_
      refine fm_cs S (c_MO_half l dC dI fa cB f 2 (by omega)) rfl rfl k_MO_half q_3_172 ⟨Nat.le_of_ble_eq_true rfl, Nat.le_of_ble_eq_true rfl⟩ (hP.sub [0] rfl) (hK.sub [0] rfl) rfl hl.1 rfl (Nat.le_of_ble_eq_true rfl) ⟨Nat.zero_le _, Nat.zero_le _⟩ d_MO_isThere_23 ?_
      have f0_23 := fm_HF_lt (fm_RB_lt f) 2
      refine lv_isub hx hb d_MO_isThere_26 ?_
      refine fm_tw (z := nI (n - (fm_HF (fm_RB f) 2))) (pk_sub (by omega)) ?_
      refine lv_iconst (v := nI (0)) hx hb d_MO_isThere_27 (by decide) ?_
      refine fm_cs S (c_MO_at l dC dI fa cB f 1 (n - (fm_HF (fm_RB f) 2)) 0 (by omega) (hq) (by omega) (by omega)) rfl rfl k_MO_at q_3_184 ⟨Nat.le_of_ble_eq_true rfl, Nat.le_of_ble_eq_true rfl⟩ (hP.sub [0] rfl) (hK.sub [0] rfl) rfl hl.1 rfl (Nat.le_of_ble_eq_true rfl) ⟨Nat.zero_le _, Nat.zero_le _⟩ d_MO_isThere_28 ?_
      have f0_28 := fm_AT_lt (fm_RB_lt f) 1 (n - (fm_HF (fm_RB f) 2)) 0
      refine lv_if_le (tgt := 38) hx hb d_MO_isThere_31 (by decide) (fun c0 => ?_) (fun c0 => ?_)
      · have c_31 : fm_AT (fm_RB f) 1 (n - (fm_HF (fm_RB f) 2)) 0 ≤ 0 := (nI_leI (a := fm_AT (fm_RB f) 1 (n - (fm_HF (fm_RB f) 2)) 0) (b := 0) (by omega) (by omega)).mp c0
        refine lv_iconst (v := nI (0)) hx hb d_MO_isThere_38 (by decide) ?_
        exact W.zret (ty := .boolean) hx hb hr (rfl) (fun t ht hW => ⟨_, rfl, by first | (rw [fm_thI_lt (fm_RB_lt f) c_6]; rfl) | (rw [fm_thI_n hn, fm_th_f1 c_15]; rfl) | (rw [fm_thI_n hn, fm_th_f2 c_31]; rfl), ht⟩) (fun q hq => by cases hq) d_MO_isThere_39
      · have c_31 : ¬ (fm_AT (fm_RB f) 1 (n - (fm_HF (fm_RB f) 2)) 0 ≤ 0) := fun z => c0 ((nI_leI (a := fm_AT (fm_RB f) 1 (n - (fm_HF (fm_RB f) 2)) 0) (b := 0) (by omega) (by omega)).mpr z)
        refine lv_iconst (v := nI (1)) hx hb d_MO_isThere_34 (by decide) ?_
        refine lv_goto (tgt := 39) hx hb d_MO_isThere_35 (by decide) ?_
        exact W.zret (ty := .boolean) hx hb hr (rfl) (fun t ht hW => ⟨_, rfl, by rw [fm_thI_n hn, fm_th_t hcn (by omega) c_31]; rfl, ht⟩) (fun q hq => by cases hq) d_MO_isThere_39
end
section
theorem c_MO_isThereN (l : Launch) (dC : Nat → ClassId) (dI : Nat → Nat → Nat) (fa : Nat) (cB : ClassId) (f : Nat → Int32) (n : Nat) (hn : n < 2 ^ 31) (hL : fm_Len (fm_RB f)) : fm_M l (dC, dI) y_MO_isThere w_MO_isThere ({ frames := 4, cells := 0, slots := 0, locals := 88 }) [.ref fa, .int (nI (n))] [(fa, .inl (cB, 8192, .inl (f)))] [(cB, .byte)] ((fm_bI (fm_th (fm_RB f) n))) := by
  rw [← fm_thI_n hn]
  exact c_MO_isThere l dC dI fa cB f (nI n) hL
theorem d_MO_tag_0 : decode b_MO_tag 0 = .ok (.aload_n 0, 1) := by decide +kernel
theorem d_MO_tag_1 : decode b_MO_tag 1 = .ok (.iconst 1, 1) := by decide +kernel
theorem d_MO_tag_2 : decode b_MO_tag 2 = .ok (.iload_n 1, 1) := by decide +kernel
theorem d_MO_tag_3 : decode b_MO_tag 3 = .ok (.aload_n 0, 1) := by decide +kernel
theorem d_MO_tag_4 : decode b_MO_tag 4 = .ok (.iconst 2, 1) := by decide +kernel
theorem d_MO_tag_5 : decode b_MO_tag 5 = .ok (.invokestatic 33, 3) := by decide +kernel
theorem d_MO_tag_8 : decode b_MO_tag 8 = .ok (.isub, 1) := by decide +kernel
theorem d_MO_tag_9 : decode b_MO_tag 9 = .ok (.iconst 2, 1) := by decide +kernel
theorem d_MO_tag_10 : decode b_MO_tag 10 = .ok (.invokestatic 43, 3) := by decide +kernel
theorem d_MO_tag_13 : decode b_MO_tag 13 = .ok (.iconst 4, 1) := by decide +kernel
theorem d_MO_tag_14 : decode b_MO_tag 14 = .ok (.irem, 1) := by decide +kernel
theorem d_MO_tag_15 : decode b_MO_tag 15 = .ok (.ireturn, 1) := by decide +kernel
set_option maxHeartbeats 4000000 in
set_option maxRecDepth 100000 in
theorem c_MO_tag (l : Launch) (dC : Nat → ClassId) (dI : Nat → Nat → Nat) (fa : Nat) (cB : ClassId) (f : Nat → Int32) (c : Nat) (hL : fm_Len (fm_RB f)) (h1 : fm_HF (fm_RB f) 2 ≤ c) (h2 : c ≤ fm_HF (fm_RB f) 3) : fm_M l (dC, dI) y_MO_tag w_MO_tag ({ frames := 4, cells := 0, slots := 0, locals := 88 }) [.ref fa, .int (nI (c))] [(fa, .inl (cB, 8192, .inl (f)))] [(cB, .byte)] (nI (fm_tag (fm_RB f) c)) := by
  refine Met.ofW (cc := b_MO_tag) (maxL := 2) (ret := (some .int)) (by decide) rfl ?_
  intro pg ev s m args below meth cd s₁ BD hml hv
  obtain ⟨rfl, hP, hK⟩ := hv
  have hx := BD.exec
  have hb := BD.bytes
  have hr := BD.returns
  have hts := atoms_spec (ws := w_MO_tag) BD.pre
  have ht : ∀ w ∈ fm_T, w.before _ s = true := fun w h => hts w (List.mem_cons_of_mem _ h)
  have hown : s.vm.findClass R_MO = some m.cls := findClass_of_methodNamed BD.named
  have hlocks := BD.notSynchronized
  have S : CallFix pg m cd b_MO_tag 2 s _ w_MO_tag R_MO := ⟨hx, hb, hml, hown, hts⟩
  have hl := lv_entry ([.ref fa, .int (nI (c))]) (n := 2) (Nat.le_of_ble_eq_true rfl)
  rw [lg_entry_eq]
  generalize (lg_sl ([.ref fa, .int (nI (c))]) ++ List.replicate (2 - (lg_sl ([.ref fa, .int (nI (c))])).length) Slot.unset).toArray = ls at hl ⊢
  have hl : lv_has ls 2 [(0, .ref fa), (1, .int (nI (c)))] := hl
  obtain ⟨-, hq, h3, h10⟩ := id hL
  have hci := fm_cin hL h1 h2
  refine lv_aload_n hx hb d_MO_tag_0 rfl (lv_at hl 0 rfl) ?_
  refine lv_iconst (v := nI (1)) hx hb d_MO_tag_1 (by decide) ?_
  refine lv_iload_n hx hb d_MO_tag_2 rfl (lv_at hl 1 rfl) ?_
  refine lv_aload_n hx hb d_MO_tag_3 rfl (lv_at hl 0 rfl) ?_
  refine lv_iconst (v := nI (2)) hx hb d_MO_tag_4 (by decide) ?_
  refine fm_cs S (c_MO_half l dC dI fa cB f 2 (by omega)) rfl rfl k_MO_half q_3_172 ⟨Nat.le_of_ble_eq_true rfl, Nat.le_of_ble_eq_true rfl⟩ (hP.sub [0] rfl) (hK.sub [0] rfl) rfl hl.1 rfl (Nat.le_of_ble_eq_true rfl) ⟨Nat.zero_le _, Nat.zero_le _⟩ d_MO_tag_5 ?_
  have f0_5 := fm_HF_lt (fm_RB_lt f) 2
  refine lv_isub hx hb d_MO_tag_8 ?_
  refine fm_tw (z := nI (c - (fm_HF (fm_RB f) 2))) (pk_sub (by omega)) ?_
  refine lv_iconst (v := nI (2)) hx hb d_MO_tag_9 (by decide) ?_
  refine fm_cs S (c_MO_at l dC dI fa cB f 1 (c - (fm_HF (fm_RB f) 2)) 2 (by omega) (hq) (by omega) (by omega)) rfl rfl k_MO_at q_3_184 ⟨Nat.le_of_ble_eq_true rfl, Nat.le_of_ble_eq_true rfl⟩ (hP.sub [0] rfl) (hK.sub [0] rfl) rfl hl.1 rfl (Nat.le_of_ble_eq_true rfl) ⟨Nat.zero_le _, Nat.zero_le _⟩ d_MO_tag_10 ?_
  have f0_10 := fm_AT_lt (fm_RB_lt f) 1 (c - (fm_HF (fm_RB f) 2)) 2
  refine lv_iconst (v := nI (4)) hx hb d_MO_tag_13 (by decide) ?_
  refine lv_irem hx hb d_MO_tag_14 (by decide) ?_
  refine fm_tw (z := nI ((fm_AT (fm_RB f) 1 (c - (fm_HF (fm_RB f) 2)) 2) % 4)) (pk_rem (by omega) (by omega) (by omega)) ?_
  exact W.iret hx hb hr (fun t ht hW => ⟨_, rfl, rfl, ht⟩) (fun q hq => by cases hq) d_MO_tag_15
theorem d_MO_rest_0 : decode b_MO_rest 0 = .ok (.aload_n 0, 1) := by decide +kernel
theorem d_MO_rest_1 : decode b_MO_rest 1 = .ok (.iconst 1, 1) := by decide +kernel
theorem d_MO_rest_2 : decode b_MO_rest 2 = .ok (.iload_n 1, 1) := by decide +kernel
theorem d_MO_rest_3 : decode b_MO_rest 3 = .ok (.aload_n 0, 1) := by decide +kernel
theorem d_MO_rest_4 : decode b_MO_rest 4 = .ok (.iconst 2, 1) := by decide +kernel
theorem d_MO_rest_5 : decode b_MO_rest 5 = .ok (.invokestatic 33, 3) := by decide +kernel
theorem d_MO_rest_8 : decode b_MO_rest 8 = .ok (.isub, 1) := by decide +kernel
theorem d_MO_rest_9 : decode b_MO_rest 9 = .ok (.iconst 3, 1) := by decide +kernel
theorem d_MO_rest_10 : decode b_MO_rest 10 = .ok (.invokestatic 43, 3) := by decide +kernel
theorem d_MO_rest_13 : decode b_MO_rest 13 = .ok (.ireturn, 1) := by decide +kernel
set_option maxHeartbeats 4000000 in
set_option maxRecDepth 100000 in
theorem c_MO_rest (l : Launch) (dC : Nat → ClassId) (dI : Nat → Nat → Nat) (fa : Nat) (cB : ClassId) (f : Nat → Int32) (c : Nat) (hL : fm_Len (fm_RB f)) (h1 : fm_HF (fm_RB f) 2 ≤ c) (h2 : c ≤ fm_HF (fm_RB f) 3) : fm_M l (dC, dI) y_MO_rest w_MO_rest ({ frames := 4, cells := 0, slots := 0, locals := 88 }) [.ref fa, .int (nI (c))] [(fa, .inl (cB, 8192, .inl (f)))] [(cB, .byte)] (nI (fm_rest (fm_RB f) c)) := by
  refine Met.ofW (cc := b_MO_rest) (maxL := 2) (ret := (some .int)) (by decide) rfl ?_
  intro pg ev s m args below meth cd s₁ BD hml hv
  obtain ⟨rfl, hP, hK⟩ := hv
  have hx := BD.exec
  have hb := BD.bytes
  have hr := BD.returns
  have hts := atoms_spec (ws := w_MO_rest) BD.pre
  have ht : ∀ w ∈ fm_T, w.before _ s = true := fun w h => hts w (List.mem_cons_of_mem _ h)
  have hown : s.vm.findClass R_MO = some m.cls := findClass_of_methodNamed BD.named
  have hlocks := BD.notSynchronized
  have S : CallFix pg m cd b_MO_rest 2 s _ w_MO_rest R_MO := ⟨hx, hb, hml, hown, hts⟩
  have hl := lv_entry ([.ref fa, .int (nI (c))]) (n := 2) (Nat.le_of_ble_eq_true rfl)
  rw [lg_entry_eq]
  generalize (lg_sl ([.ref fa, .int (nI (c))]) ++ List.replicate (2 - (lg_sl ([.ref fa, .int (nI (c))])).length) Slot.unset).toArray = ls at hl ⊢
  have hl : lv_has ls 2 [(0, .ref fa), (1, .int (nI (c)))] := hl
  obtain ⟨-, hq, h3, h10⟩ := id hL
  have hci := fm_cin hL h1 h2
  refine lv_aload_n hx hb d_MO_rest_0 rfl (lv_at hl 0 rfl) ?_
  refine lv_iconst (v := nI (1)) hx hb d_MO_rest_1 (by decide) ?_
  refine lv_iload_n hx hb d_MO_rest_2 rfl (lv_at hl 1 rfl) ?_
  refine lv_aload_n hx hb d_MO_rest_3 rfl (lv_at hl 0 rfl) ?_
  refine lv_iconst (v := nI (2)) hx hb d_MO_rest_4 (by decide) ?_
  refine fm_cs S (c_MO_half l dC dI fa cB f 2 (by omega)) rfl rfl k_MO_half q_3_172 ⟨Nat.le_of_ble_eq_true rfl, Nat.le_of_ble_eq_true rfl⟩ (hP.sub [0] rfl) (hK.sub [0] rfl) rfl hl.1 rfl (Nat.le_of_ble_eq_true rfl) ⟨Nat.zero_le _, Nat.zero_le _⟩ d_MO_rest_5 ?_
  have f0_5 := fm_HF_lt (fm_RB_lt f) 2
  refine lv_isub hx hb d_MO_rest_8 ?_
  refine fm_tw (z := nI (c - (fm_HF (fm_RB f) 2))) (pk_sub (by omega)) ?_
  refine lv_iconst (v := nI (3)) hx hb d_MO_rest_9 (by decide) ?_
  refine fm_cs S (c_MO_at l dC dI fa cB f 1 (c - (fm_HF (fm_RB f) 2)) 3 (by omega) (hq) (by omega) (by omega)) rfl rfl k_MO_at q_3_184 ⟨Nat.le_of_ble_eq_true rfl, Nat.le_of_ble_eq_true rfl⟩ (hP.sub [0] rfl) (hK.sub [0] rfl) rfl hl.1 rfl (Nat.le_of_ble_eq_true rfl) ⟨Nat.zero_le _, Nat.zero_le _⟩ d_MO_rest_10 ?_
  have f0_10 := fm_AT_lt (fm_RB_lt f) 1 (c - (fm_HF (fm_RB f) 2)) 3
  exact W.iret hx hb hr (fun t ht hW => ⟨_, rfl, rfl, ht⟩) (fun q hq => by cases hq) d_MO_rest_13
theorem d_MO_edgeOf_0 : decode b_MO_edgeOf 0 = .ok (.aload_n 0, 1) := by decide +kernel
theorem d_MO_edgeOf_1 : decode b_MO_edgeOf 1 = .ok (.bipush 6, 2) := by decide +kernel
theorem d_MO_edgeOf_3 : decode b_MO_edgeOf 3 = .ok (.invokestatic 37, 3) := by decide +kernel
theorem d_MO_edgeOf_6 : decode b_MO_edgeOf 6 = .ok (.ifCond .le 28, 3) := by decide +kernel
theorem d_MO_edgeOf_9 : decode b_MO_edgeOf 9 = .ok (.aload_n 0, 1) := by decide +kernel
theorem d_MO_edgeOf_10 : decode b_MO_edgeOf 10 = .ok (.bipush 6, 2) := by decide +kernel
theorem d_MO_edgeOf_12 : decode b_MO_edgeOf 12 = .ok (.iconst 0, 1) := by decide +kernel
theorem d_MO_edgeOf_13 : decode b_MO_edgeOf 13 = .ok (.iconst 0, 1) := by decide +kernel
theorem d_MO_edgeOf_14 : decode b_MO_edgeOf 14 = .ok (.invokestatic 43, 3) := by decide +kernel
theorem d_MO_edgeOf_17 : decode b_MO_edgeOf 17 = .ok (.sipush 255, 3) := by decide +kernel
theorem d_MO_edgeOf_20 : decode b_MO_edgeOf 20 = .ok (.if_icmp .ne 14, 3) := by decide +kernel
theorem d_MO_edgeOf_23 : decode b_MO_edgeOf 23 = .ok (.aload_n 0, 1) := by decide +kernel
theorem d_MO_edgeOf_24 : decode b_MO_edgeOf 24 = .ok (.bipush 6, 2) := by decide +kernel
theorem d_MO_edgeOf_26 : decode b_MO_edgeOf 26 = .ok (.iconst 0, 1) := by decide +kernel
theorem d_MO_edgeOf_27 : decode b_MO_edgeOf 27 = .ok (.iconst 1, 1) := by decide +kernel
theorem d_MO_edgeOf_28 : decode b_MO_edgeOf 28 = .ok (.invokestatic 43, 3) := by decide +kernel
theorem d_MO_edgeOf_31 : decode b_MO_edgeOf 31 = .ok (.goto 4, 3) := by decide +kernel
theorem d_MO_edgeOf_34 : decode b_MO_edgeOf 34 = .ok (.iconst (-1), 1) := by decide +kernel
theorem d_MO_edgeOf_35 : decode b_MO_edgeOf 35 = .ok (.ireturn, 1) := by decide +kernel
set_option maxHeartbeats 4000000 in
set_option maxRecDepth 100000 in
theorem c_MO_edgeOf (l : Launch) (dC : Nat → ClassId) (dI : Nat → Nat → Nat) (fa : Nat) (cB : ClassId) (f : Nat → Int32) (hL : fm_Len (fm_RB f)) : fm_M l (dC, dI) y_MO_edgeOf w_MO_edgeOf ({ frames := 4, cells := 0, slots := 0, locals := 88 }) [.ref fa] [(fa, .inl (cB, 8192, .inl (f)))] [(cB, .byte)] ((fm_eg (fm_RB f))) := by
  refine Met.ofW (cc := b_MO_edgeOf) (maxL := 1) (ret := (some .int)) (by decide) rfl ?_
  intro pg ev s m args below meth cd s₁ BD hml hv
  obtain ⟨rfl, hP, hK⟩ := hv
  have hx := BD.exec
  have hb := BD.bytes
  have hr := BD.returns
  have hts := atoms_spec (ws := w_MO_edgeOf) BD.pre
  have ht : ∀ w ∈ fm_T, w.before _ s = true := fun w h => hts w (List.mem_cons_of_mem _ h)
  have hown : s.vm.findClass R_MO = some m.cls := findClass_of_methodNamed BD.named
  have hlocks := BD.notSynchronized
  have S : CallFix pg m cd b_MO_edgeOf 1 s _ w_MO_edgeOf R_MO := ⟨hx, hb, hml, hown, hts⟩
  have hl := lv_entry ([.ref fa]) (n := 1) (Nat.le_of_ble_eq_true rfl)
  rw [lg_entry_eq]
  generalize (lg_sl ([.ref fa]) ++ List.replicate (1 - (lg_sl ([.ref fa])).length) Slot.unset).toArray = ls at hl ⊢
  have hl : lv_has ls 1 [(0, .ref fa)] := hl
  obtain ⟨-, hq, h3, h10⟩ := id hL
  refine lv_aload_n hx hb d_MO_edgeOf_0 rfl (lv_at hl 0 rfl) ?_
  refine lv_bipush (v := nI (6)) hx hb d_MO_edgeOf_1 (by decide) ?_
  refine fm_cs S (c_MO_words l dC dI fa cB f 6 (by omega) (fun _ => hq)) rfl rfl k_MO_words q_3_175 ⟨Nat.le_of_ble_eq_true rfl, Nat.le_of_ble_eq_true rfl⟩ (hP.sub [0] rfl) (hK.sub [0] rfl) rfl hl.1 rfl (Nat.le_of_ble_eq_true rfl) ⟨Nat.zero_le _, Nat.zero_le _⟩ d_MO_edgeOf_3 ?_
  have f0_3 := fm_WD_le (fm_RB_lt f) 6
  refine lv_if_le (tgt := 34) hx hb d_MO_edgeOf_6 (by decide) (fun c0 => ?_) (fun c0 => ?_)
  · have c_6 : fm_WD (fm_RB f) 6 ≤ 0 := (nI_leI (a := fm_WD (fm_RB f) 6) (b := 0) (by omega) (by omega)).mp c0
    refine lv_iconst (v := ((-1))) hx hb d_MO_edgeOf_34 (by decide) ?_
    exact W.iret hx hb hr (fun t ht hW => ⟨_, rfl, by first | (rw [fm_eg, if_neg (fun z => c_20 z.2)]; done) | (rw [fm_eg, if_neg (fun z => by omega)]; done), ht⟩) (fun q hq => by cases hq) d_MO_edgeOf_35
  · have c_6 : ¬ (fm_WD (fm_RB f) 6 ≤ 0) := fun z => c0 ((nI_leI (a := fm_WD (fm_RB f) 6) (b := 0) (by omega) (by omega)).mpr z)
    have hin := fm_pin hL (p := 6) (k := 0) (by decide) (by omega)
    refine lv_aload_n hx hb d_MO_edgeOf_9 rfl (lv_at hl 0 rfl) ?_
    refine lv_bipush (v := nI (6)) hx hb d_MO_edgeOf_10 (by decide) ?_
    refine lv_iconst (v := nI (0)) hx hb d_MO_edgeOf_12 (by decide) ?_
    refine lv_iconst (v := nI (0)) hx hb d_MO_edgeOf_13 (by decide) ?_
    refine fm_cs S (c_MO_at l dC dI fa cB f 6 0 0 (by omega) (hq) (by omega) (by omega)) rfl rfl k_MO_at q_3_184 ⟨Nat.le_of_ble_eq_true rfl, Nat.le_of_ble_eq_true rfl⟩ (hP.sub [0] rfl) (hK.sub [0] rfl) rfl hl.1 rfl (Nat.le_of_ble_eq_true rfl) ⟨Nat.zero_le _, Nat.zero_le _⟩ d_MO_edgeOf_14 ?_
    have f0_14 := fm_AT_lt (fm_RB_lt f) 6 0 0
    refine lv_sipush (v := nI (255)) hx hb d_MO_edgeOf_17 (by decide) ?_
    refine lv_icmp_ne (tgt := 34) hx hb d_MO_edgeOf_20 (by decide) (fun c0 => ?_) (fun c0 => ?_)
    · have c_20 : ¬ (fm_AT (fm_RB f) 6 0 0 = 255) := fun z => c0 ((nI_eq (a := fm_AT (fm_RB f) 6 0 0) (b := 255) (by omega) (by omega)).mpr z)
      refine lv_iconst (v := ((-1))) hx hb d_MO_edgeOf_34 (by decide) ?_
      exact W.iret hx hb hr (fun t ht hW => ⟨_, rfl, by first | (rw [fm_eg, if_neg (fun z => c_20 z.2)]; done) | (rw [fm_eg, if_neg (fun z => by omega)]; done), ht⟩) (fun q hq => by cases hq) d_MO_edgeOf_35
    · have c_20 : fm_AT (fm_RB f) 6 0 0 = 255 := (nI_eq (a := fm_AT (fm_RB f) 6 0 0) (b := 255) (by omega) (by omega)).mp c0
      refine lv_aload_n hx hb d_MO_edgeOf_23 rfl (lv_at hl 0 rfl) ?_
      refine lv_bipush (v := nI (6)) hx hb d_MO_edgeOf_24 (by decide) ?_
      refine lv_iconst (v := nI (0)) hx hb d_MO_edgeOf_26 (by decide) ?_
      refine lv_iconst (v := nI (1)) hx hb d_MO_edgeOf_27 (by decide) ?_
      refine fm_cs S (c_MO_at l dC dI fa cB f 6 0 1 (by omega) (hq) (by omega) (by omega)) rfl rfl k_MO_at q_3_184 ⟨Nat.le_of_ble_eq_true rfl, Nat.le_of_ble_eq_true rfl⟩ (hP.sub [0] rfl) (hK.sub [0] rfl) rfl hl.1 rfl (Nat.le_of_ble_eq_true rfl) ⟨Nat.zero_le _, Nat.zero_le _⟩ d_MO_edgeOf_28 ?_
      have f0_28 := fm_AT_lt (fm_RB_lt f) 6 0 1
      refine lv_goto (tgt := 35) hx hb d_MO_edgeOf_31 (by decide) ?_
      exact W.iret hx hb hr (fun t ht hW => ⟨_, rfl, by rw [fm_eg, if_pos ⟨by omega, c_20⟩], ht⟩) (fun q hq => by cases hq) d_MO_edgeOf_35
theorem d_MO_edgeProgram_0 : decode b_MO_edgeProgram 0 = .ok (.aload_n 0, 1) := by decide +kernel
theorem d_MO_edgeProgram_1 : decode b_MO_edgeProgram 1 = .ok (.bipush 6, 2) := by decide +kernel
theorem d_MO_edgeProgram_3 : decode b_MO_edgeProgram 3 = .ok (.invokestatic 37, 3) := by decide +kernel
theorem d_MO_edgeProgram_6 : decode b_MO_edgeProgram 6 = .ok (.istore_n 1, 1) := by decide +kernel
theorem d_MO_edgeProgram_7 : decode b_MO_edgeProgram 7 = .ok (.iload_n 1, 1) := by decide +kernel
theorem d_MO_edgeProgram_8 : decode b_MO_edgeProgram 8 = .ok (.ifCond .le 29, 3) := by decide +kernel
theorem d_MO_edgeProgram_11 : decode b_MO_edgeProgram 11 = .ok (.aload_n 0, 1) := by decide +kernel
theorem d_MO_edgeProgram_12 : decode b_MO_edgeProgram 12 = .ok (.bipush 6, 2) := by decide +kernel
theorem d_MO_edgeProgram_14 : decode b_MO_edgeProgram 14 = .ok (.iload_n 1, 1) := by decide +kernel
theorem d_MO_edgeProgram_15 : decode b_MO_edgeProgram 15 = .ok (.iconst 1, 1) := by decide +kernel
theorem d_MO_edgeProgram_16 : decode b_MO_edgeProgram 16 = .ok (.isub, 1) := by decide +kernel
theorem d_MO_edgeProgram_17 : decode b_MO_edgeProgram 17 = .ok (.iconst 0, 1) := by decide +kernel
theorem d_MO_edgeProgram_18 : decode b_MO_edgeProgram 18 = .ok (.invokestatic 43, 3) := by decide +kernel
theorem d_MO_edgeProgram_21 : decode b_MO_edgeProgram 21 = .ok (.sipush 255, 3) := by decide +kernel
theorem d_MO_edgeProgram_24 : decode b_MO_edgeProgram 24 = .ok (.if_icmp .ne 13, 3) := by decide +kernel
theorem d_MO_edgeProgram_27 : decode b_MO_edgeProgram 27 = .ok (.aload_n 0, 1) := by decide +kernel
theorem d_MO_edgeProgram_28 : decode b_MO_edgeProgram 28 = .ok (.iload_n 1, 1) := by decide +kernel
theorem d_MO_edgeProgram_29 : decode b_MO_edgeProgram 29 = .ok (.iconst 1, 1) := by decide +kernel
theorem d_MO_edgeProgram_30 : decode b_MO_edgeProgram 30 = .ok (.isub, 1) := by decide +kernel
theorem d_MO_edgeProgram_31 : decode b_MO_edgeProgram 31 = .ok (.invokestatic 47, 3) := by decide +kernel
theorem d_MO_edgeProgram_34 : decode b_MO_edgeProgram 34 = .ok (.goto 4, 3) := by decide +kernel
theorem d_MO_edgeProgram_37 : decode b_MO_edgeProgram 37 = .ok (.iconst (-1), 1) := by decide +kernel
theorem d_MO_edgeProgram_38 : decode b_MO_edgeProgram 38 = .ok (.ireturn, 1) := by decide +kernel
set_option maxHeartbeats 4000000 in
set_option maxRecDepth 100000 in
theorem c_MO_edgeProgram (l : Launch) (dC : Nat → ClassId) (dI : Nat → Nat → Nat) (fa : Nat) (cB : ClassId) (f : Nat → Int32) (hL : fm_Len (fm_RB f)) : fm_M l (dC, dI) y_MO_edgeProgram w_MO_edgeProgram ({ frames := 5, cells := 0, slots := 0, locals := 109 }) [.ref fa] [(fa, .inl (cB, 8192, .inl (f)))] [(cB, .byte)] ((fm_ep (fm_RB f))) := by
  refine Met.ofW (cc := b_MO_edgeProgram) (maxL := 2) (ret := (some .int)) (by decide) rfl ?_
  intro pg ev s m args below meth cd s₁ BD hml hv
  obtain ⟨rfl, hP, hK⟩ := hv
  have hx := BD.exec
  have hb := BD.bytes
  have hr := BD.returns
  have hts := atoms_spec (ws := w_MO_edgeProgram) BD.pre
  have ht : ∀ w ∈ fm_T, w.before _ s = true := fun w h => hts w (List.mem_cons_of_mem _ h)
  have hown : s.vm.findClass R_MO = some m.cls := findClass_of_methodNamed BD.named
  have hlocks := BD.notSynchronized
  have S : CallFix pg m cd b_MO_edgeProgram 2 s _ w_MO_edgeProgram R_MO := ⟨hx, hb, hml, hown, hts⟩
  have hl := lv_entry ([.ref fa]) (n := 2) (Nat.le_of_ble_eq_true rfl)
  rw [lg_entry_eq]
  generalize (lg_sl ([.ref fa]) ++ List.replicate (2 - (lg_sl ([.ref fa])).length) Slot.unset).toArray = ls at hl ⊢
  have hl : lv_has ls 2 [(0, .ref fa)] := hl
  obtain ⟨-, hq, h3, h10⟩ := id hL
  refine lv_aload_n hx hb d_MO_edgeProgram_0 rfl (lv_at hl 0 rfl) ?_
  refine lv_bipush (v := nI (6)) hx hb d_MO_edgeProgram_1 (by decide) ?_
  refine fm_cs S (c_MO_words l dC dI fa cB f 6 (by omega) (fun _ => hq)) rfl rfl k_MO_words q_3_175 ⟨Nat.le_of_ble_eq_true rfl, Nat.le_of_ble_eq_true rfl⟩ (hP.sub [0] rfl) (hK.sub [0] rfl) rfl hl.1 rfl (Nat.le_of_ble_eq_true rfl) ⟨Nat.zero_le _, Nat.zero_le _⟩ d_MO_edgeProgram_3 ?_
  have f0_3 := fm_WD_le (fm_RB_lt f) 6
  refine lv_istore_n (lv' := [(1, .int (nI (fm_WD (fm_RB f) 6))), (0, .ref fa)]) hx hb d_MO_edgeProgram_6 rfl hl (by decide) rfl (fun ls hl => ?_)
  refine lv_iload_n hx hb d_MO_edgeProgram_7 rfl (lv_at hl 0 rfl) ?_
  refine lv_if_le (tgt := 37) hx hb d_MO_edgeProgram_8 (by decide) (fun c0 => ?_) (fun c0 => ?_)
  · have c_8 : fm_WD (fm_RB f) 6 ≤ 0 := (nI_leI (a := fm_WD (fm_RB f) 6) (b := 0) (by omega) (by omega)).mp c0
    refine lv_iconst (v := ((-1))) hx hb d_MO_edgeProgram_37 (by decide) ?_
    exact W.iret hx hb hr (fun t ht hW => ⟨_, rfl, by first | (rw [fm_ep, if_neg (fun z => c_24 z.2)]; done) | (rw [fm_ep, if_neg (fun z => by omega)]; done), ht⟩) (fun q hq => by cases hq) d_MO_edgeProgram_38
  · have c_8 : ¬ (fm_WD (fm_RB f) 6 ≤ 0) := fun z => c0 ((nI_leI (a := fm_WD (fm_RB f) 6) (b := 0) (by omega) (by omega)).mpr z)
    have hin := fm_pin hL (p := 6) (k := fm_WD (fm_RB f) 6 - 1) (by decide) (by omega)
    refine lv_aload_n hx hb d_MO_edgeProgram_11 rfl (lv_at hl 1 rfl) ?_
    refine lv_bipush (v := nI (6)) hx hb d_MO_edgeProgram_12 (by decide) ?_
    refine lv_iload_n hx hb d_MO_edgeProgram_14 rfl (lv_at hl 0 rfl) ?_
    refine lv_iconst (v := nI (1)) hx hb d_MO_edgeProgram_15 (by decide) ?_
    refine lv_isub hx hb d_MO_edgeProgram_16 ?_
    refine fm_tw (z := nI (fm_WD (fm_RB f) 6 - 1)) (pk_sub (by omega)) ?_
    refine lv_iconst (v := nI (0)) hx hb d_MO_edgeProgram_17 (by decide) ?_
    refine fm_cs S (c_MO_at l dC dI fa cB f 6 (fm_WD (fm_RB f) 6 - 1) 0 (by omega) (hq) (by omega) (by omega)) rfl rfl k_MO_at q_3_184 ⟨Nat.le_of_ble_eq_true rfl, Nat.le_of_ble_eq_true rfl⟩ (hP.sub [0] rfl) (hK.sub [0] rfl) rfl hl.1 rfl (Nat.le_of_ble_eq_true rfl) ⟨Nat.zero_le _, Nat.zero_le _⟩ d_MO_edgeProgram_18 ?_
    have f0_18 := fm_AT_lt (fm_RB_lt f) 6 (fm_WD (fm_RB f) 6 - 1) 0
    refine lv_sipush (v := nI (255)) hx hb d_MO_edgeProgram_21 (by decide) ?_
    refine lv_icmp_ne (tgt := 37) hx hb d_MO_edgeProgram_24 (by decide) (fun c0 => ?_) (fun c0 => ?_)
    · have c_24 : ¬ (fm_AT (fm_RB f) 6 (fm_WD (fm_RB f) 6 - 1) 0 = 255) := fun z => c0 ((nI_eq (a := fm_AT (fm_RB f) 6 (fm_WD (fm_RB f) 6 - 1) 0) (b := 255) (by omega) (by omega)).mpr z)
      refine lv_iconst (v := ((-1))) hx hb d_MO_edgeProgram_37 (by decide) ?_
      exact W.iret hx hb hr (fun t ht hW => ⟨_, rfl, by first | (rw [fm_ep, if_neg (fun z => c_24 z.2)]; done) | (rw [fm_ep, if_neg (fun z => by omega)]; done), ht⟩) (fun q hq => by cases hq) d_MO_edgeProgram_38
    · have c_24 : fm_AT (fm_RB f) 6 (fm_WD (fm_RB f) 6 - 1) 0 = 255 := (nI_eq (a := fm_AT (fm_RB f) 6 (fm_WD (fm_RB f) 6 - 1) 0) (b := 255) (by omega) (by omega)).mp c0
      refine lv_aload_n hx hb d_MO_edgeProgram_27 rfl (lv_at hl 1 rfl) ?_
      refine lv_iload_n hx hb d_MO_edgeProgram_28 rfl (lv_at hl 0 rfl) ?_
      refine lv_iconst (v := nI (1)) hx hb d_MO_edgeProgram_29 (by decide) ?_
      refine lv_isub hx hb d_MO_edgeProgram_30 ?_
      refine fm_tw (z := nI (fm_WD (fm_RB f) 6 - 1)) (pk_sub (by omega)) ?_
      refine fm_cs S (c_MO_far l dC dI fa cB f (fm_WD (fm_RB f) 6 - 1) (hq) (by omega)) rfl rfl k_MO_far q_3_218 ⟨Nat.le_of_ble_eq_true rfl, Nat.le_of_ble_eq_true rfl⟩ (hP.sub [0] rfl) (hK.sub [0] rfl) rfl hl.1 rfl (Nat.le_of_ble_eq_true rfl) ⟨Nat.zero_le _, Nat.zero_le _⟩ d_MO_edgeProgram_31 ?_
      have f0_31 := fm_FAR_lt (fm_RB_lt f) (fm_WD (fm_RB f) 6 - 1)
      refine lv_goto (tgt := 38) hx hb d_MO_edgeProgram_34 (by decide) ?_
      exact W.iret hx hb hr (fun t ht hW => ⟨_, rfl, by rw [fm_ep, if_pos ⟨by omega, c_24⟩], ht⟩) (fun q hq => by cases hq) d_MO_edgeProgram_38
theorem d_MO_areSizesRight_0 : decode b_MO_areSizesRight 0 = .ok (.iconst 1, 1) := by decide +kernel
theorem d_MO_areSizesRight_1 : decode b_MO_areSizesRight 1 = .ok (.istore_n 1, 1) := by decide +kernel
theorem d_MO_areSizesRight_2 : decode b_MO_areSizesRight 2 = .ok (.iconst 0, 1) := by decide +kernel
theorem d_MO_areSizesRight_3 : decode b_MO_areSizesRight 3 = .ok (.istore_n 2, 1) := by decide +kernel
theorem d_MO_areSizesRight_4 : decode b_MO_areSizesRight 4 = .ok (.iload_n 2, 1) := by decide +kernel
theorem d_MO_areSizesRight_5 : decode b_MO_areSizesRight 5 = .ok (.aload_n 0, 1) := by decide +kernel
theorem d_MO_areSizesRight_6 : decode b_MO_areSizesRight 6 = .ok (.iconst 1, 1) := by decide +kernel
theorem d_MO_areSizesRight_7 : decode b_MO_areSizesRight 7 = .ok (.invokestatic 37, 3) := by decide +kernel
theorem d_MO_areSizesRight_10 : decode b_MO_areSizesRight 10 = .ok (.if_icmp .ge 87, 3) := by decide +kernel
theorem d_MO_areSizesRight_13 : decode b_MO_areSizesRight 13 = .ok (.iload_n 1, 1) := by decide +kernel
theorem d_MO_areSizesRight_14 : decode b_MO_areSizesRight 14 = .ok (.ifCond .eq 75, 3) := by decide +kernel
theorem d_MO_areSizesRight_17 : decode b_MO_areSizesRight 17 = .ok (.aload_n 0, 1) := by decide +kernel
theorem d_MO_areSizesRight_18 : decode b_MO_areSizesRight 18 = .ok (.iconst 1, 1) := by decide +kernel
theorem d_MO_areSizesRight_19 : decode b_MO_areSizesRight 19 = .ok (.iload_n 2, 1) := by decide +kernel
theorem d_MO_areSizesRight_20 : decode b_MO_areSizesRight 20 = .ok (.iconst 0, 1) := by decide +kernel
theorem d_MO_areSizesRight_21 : decode b_MO_areSizesRight 21 = .ok (.invokestatic 43, 3) := by decide +kernel
theorem d_MO_areSizesRight_24 : decode b_MO_areSizesRight 24 = .ok (.aload_n 0, 1) := by decide +kernel
theorem d_MO_areSizesRight_25 : decode b_MO_areSizesRight 25 = .ok (.iconst 2, 1) := by decide +kernel
theorem d_MO_areSizesRight_26 : decode b_MO_areSizesRight 26 = .ok (.invokestatic 37, 3) := by decide +kernel
theorem d_MO_areSizesRight_29 : decode b_MO_areSizesRight 29 = .ok (.if_icmp .ge 60, 3) := by decide +kernel
theorem d_MO_areSizesRight_32 : decode b_MO_areSizesRight 32 = .ok (.aload_n 0, 1) := by decide +kernel
theorem d_MO_areSizesRight_33 : decode b_MO_areSizesRight 33 = .ok (.iconst 1, 1) := by decide +kernel
theorem d_MO_areSizesRight_34 : decode b_MO_areSizesRight 34 = .ok (.iload_n 2, 1) := by decide +kernel
theorem d_MO_areSizesRight_35 : decode b_MO_areSizesRight 35 = .ok (.iconst 1, 1) := by decide +kernel
theorem d_MO_areSizesRight_36 : decode b_MO_areSizesRight 36 = .ok (.invokestatic 43, 3) := by decide +kernel
theorem d_MO_areSizesRight_39 : decode b_MO_areSizesRight 39 = .ok (.bipush 16, 2) := by decide +kernel
theorem d_MO_areSizesRight_41 : decode b_MO_areSizesRight 41 = .ok (.idiv, 1) := by decide +kernel
theorem d_MO_areSizesRight_42 : decode b_MO_areSizesRight 42 = .ok (.aload_n 0, 1) := by decide +kernel
theorem d_MO_areSizesRight_43 : decode b_MO_areSizesRight 43 = .ok (.iconst 3, 1) := by decide +kernel
theorem d_MO_areSizesRight_44 : decode b_MO_areSizesRight 44 = .ok (.invokestatic 37, 3) := by decide +kernel
theorem d_MO_areSizesRight_47 : decode b_MO_areSizesRight 47 = .ok (.if_icmp .ge 42, 3) := by decide +kernel
theorem d_MO_areSizesRight_50 : decode b_MO_areSizesRight 50 = .ok (.aload_n 0, 1) := by decide +kernel
theorem d_MO_areSizesRight_51 : decode b_MO_areSizesRight 51 = .ok (.iconst 1, 1) := by decide +kernel
theorem d_MO_areSizesRight_52 : decode b_MO_areSizesRight 52 = .ok (.iload_n 2, 1) := by decide +kernel
theorem d_MO_areSizesRight_53 : decode b_MO_areSizesRight 53 = .ok (.iconst 1, 1) := by decide +kernel
theorem d_MO_areSizesRight_54 : decode b_MO_areSizesRight 54 = .ok (.invokestatic 43, 3) := by decide +kernel
theorem d_MO_areSizesRight_57 : decode b_MO_areSizesRight 57 = .ok (.bipush 16, 2) := by decide +kernel
theorem d_MO_areSizesRight_59 : decode b_MO_areSizesRight 59 = .ok (.irem, 1) := by decide +kernel
theorem d_MO_areSizesRight_60 : decode b_MO_areSizesRight 60 = .ok (.aload_n 0, 1) := by decide +kernel
theorem d_MO_areSizesRight_61 : decode b_MO_areSizesRight 61 = .ok (.iconst 4, 1) := by decide +kernel
theorem d_MO_areSizesRight_62 : decode b_MO_areSizesRight 62 = .ok (.invokestatic 37, 3) := by decide +kernel
theorem d_MO_areSizesRight_65 : decode b_MO_areSizesRight 65 = .ok (.if_icmp .ge 24, 3) := by decide +kernel
theorem d_MO_areSizesRight_68 : decode b_MO_areSizesRight 68 = .ok (.aload_n 0, 1) := by decide +kernel
theorem d_MO_areSizesRight_69 : decode b_MO_areSizesRight 69 = .ok (.iconst 1, 1) := by decide +kernel
theorem d_MO_areSizesRight_70 : decode b_MO_areSizesRight 70 = .ok (.iload_n 2, 1) := by decide +kernel
theorem d_MO_areSizesRight_71 : decode b_MO_areSizesRight 71 = .ok (.iconst 2, 1) := by decide +kernel
theorem d_MO_areSizesRight_72 : decode b_MO_areSizesRight 72 = .ok (.invokestatic 43, 3) := by decide +kernel
theorem d_MO_areSizesRight_75 : decode b_MO_areSizesRight 75 = .ok (.iconst 4, 1) := by decide +kernel
theorem d_MO_areSizesRight_76 : decode b_MO_areSizesRight 76 = .ok (.idiv, 1) := by decide +kernel
theorem d_MO_areSizesRight_77 : decode b_MO_areSizesRight 77 = .ok (.aload_n 0, 1) := by decide +kernel
theorem d_MO_areSizesRight_78 : decode b_MO_areSizesRight 78 = .ok (.iconst 5, 1) := by decide +kernel
theorem d_MO_areSizesRight_79 : decode b_MO_areSizesRight 79 = .ok (.invokestatic 37, 3) := by decide +kernel
theorem d_MO_areSizesRight_82 : decode b_MO_areSizesRight 82 = .ok (.if_icmp .ge 7, 3) := by decide +kernel
theorem d_MO_areSizesRight_85 : decode b_MO_areSizesRight 85 = .ok (.iconst 1, 1) := by decide +kernel
theorem d_MO_areSizesRight_86 : decode b_MO_areSizesRight 86 = .ok (.goto 4, 3) := by decide +kernel
theorem d_MO_areSizesRight_89 : decode b_MO_areSizesRight 89 = .ok (.iconst 0, 1) := by decide +kernel
theorem d_MO_areSizesRight_90 : decode b_MO_areSizesRight 90 = .ok (.istore_n 1, 1) := by decide +kernel
theorem d_MO_areSizesRight_91 : decode b_MO_areSizesRight 91 = .ok (.iinc 2 1, 3) := by decide +kernel
theorem d_MO_areSizesRight_94 : decode b_MO_areSizesRight 94 = .ok (.goto (-90), 3) := by decide +kernel
theorem d_MO_areSizesRight_97 : decode b_MO_areSizesRight 97 = .ok (.iload_n 1, 1) := by decide +kernel
theorem d_MO_areSizesRight_98 : decode b_MO_areSizesRight 98 = .ok (.ireturn, 1) := by decide +kernel
set_option maxHeartbeats 4000000 in
set_option maxRecDepth 100000 in
theorem c_MO_areSizesRight (l : Launch) (dC : Nat → ClassId) (dI : Nat → Nat → Nat) (fa : Nat) (cB : ClassId) (f : Nat → Int32) (hL : fm_Len (fm_RB f)) : fm_M l (dC, dI) y_MO_areSizesRight w_MO_areSizesRight ({ frames := 4, cells := 0, slots := 0, locals := 88 }) [.ref fa] [(fa, .inl (cB, 8192, .inl (f)))] [(cB, .byte)] ((fm_bI (fm_all (fm_WD (fm_RB f) 1) (fm_size1 (fm_RB f))))) := by
  refine Met.ofW (cc := b_MO_areSizesRight) (maxL := 3) (ret := (some .boolean)) (by decide) rfl ?_
  intro pg ev s m args below meth cd s₁ BD hml hv
  obtain ⟨rfl, hP, hK⟩ := hv
  have hx := BD.exec
  have hb := BD.bytes
  have hr := BD.returns
  have hts := atoms_spec (ws := w_MO_areSizesRight) BD.pre
  have ht : ∀ w ∈ fm_T, w.before _ s = true := fun w h => hts w (List.mem_cons_of_mem _ h)
  have hown : s.vm.findClass R_MO = some m.cls := findClass_of_methodNamed BD.named
  have hlocks := BD.notSynchronized
  have S : CallFix pg m cd b_MO_areSizesRight 3 s _ w_MO_areSizesRight R_MO := ⟨hx, hb, hml, hown, hts⟩
  have hl := lv_entry ([.ref fa]) (n := 3) (Nat.le_of_ble_eq_true rfl)
  rw [lg_entry_eq]
  generalize (lg_sl ([.ref fa]) ++ List.replicate (3 - (lg_sl ([.ref fa])).length) Slot.unset).toArray = ls at hl ⊢
  have hl : lv_has ls 3 [(0, .ref fa)] := hl
  obtain ⟨-, hq, h3, h10⟩ := id hL
  refine lv_iconst (v := nI (1)) hx hb d_MO_areSizesRight_0 (by decide) ?_
  refine lv_istore_n (lv' := [(1, .int (nI (1))), (0, .ref fa)]) hx hb d_MO_areSizesRight_1 rfl hl (by decide) rfl (fun ls hl => ?_)
  refine lv_iconst (v := nI (0)) hx hb d_MO_areSizesRight_2 (by decide) ?_
  refine lv_istore_n (lv' := [(2, .int (nI (0))), (1, .int (nI (1))), (0, .ref fa)]) hx hb d_MO_areSizesRight_3 rfl hl (by decide) rfl (fun ls hl => ?_)
  refine fm_loop1 (LV := fun (i : Nat) => [(0, .ref fa), (1, .int (fm_bI (fm_all (i) (fm_size1 (fm_RB f))))), (2, .int (nI (i)))]) (I := fun (i : Nat) => i ≤ fm_WD (fm_RB f) 1) (μ := fun (i : Nat) => fm_WD (fm_RB f) 1 - i) ?_ 0 (Nat.zero_le _) ls (lv_sub hl [2, 1, 0] rfl)
  intro i hI_4 ih_4 ls hl
  have hl : lv_has ls 3 [(0, .ref fa), (1, .int (fm_bI (fm_all (i) (fm_size1 (fm_RB f))))), (2, .int (nI (i)))] := hl
  refine lv_iload_n hx hb d_MO_areSizesRight_4 rfl (lv_at hl 2 rfl) ?_
  refine lv_aload_n hx hb d_MO_areSizesRight_5 rfl (lv_at hl 0 rfl) ?_
  refine lv_iconst (v := nI (1)) hx hb d_MO_areSizesRight_6 (by decide) ?_
  refine fm_cs S (c_MO_words l dC dI fa cB f 1 (by omega) (fun _ => hq)) rfl rfl k_MO_words q_3_175 ⟨Nat.le_of_ble_eq_true rfl, Nat.le_of_ble_eq_true rfl⟩ (hP.sub [0] rfl) (hK.sub [0] rfl) rfl hl.1 rfl (Nat.le_of_ble_eq_true rfl) ⟨Nat.zero_le _, Nat.zero_le _⟩ d_MO_areSizesRight_7 ?_
  have f0_7 := fm_WD_le (fm_RB_lt f) 1
  refine lv_icmp_ge (tgt := 97) hx hb d_MO_areSizesRight_10 (by decide) (fun c0 => ?_) (fun c0 => ?_)
  · have c_10 : fm_WD (fm_RB f) 1 ≤ i := (nI_leI (a := fm_WD (fm_RB f) 1) (b := i) (by omega) (by omega)).mp c0
    refine lv_iload_n hx hb d_MO_areSizesRight_97 rfl (lv_at hl 1 rfl) ?_
    exact W.zret (ty := .boolean) hx hb hr (fm_bI_z _) (fun t ht hW => ⟨_, rfl, by rw [show fm_WD (fm_RB f) 1 = i by omega], ht⟩) (fun q hq => by cases hq) d_MO_areSizesRight_98
  · have c_10 : ¬ (fm_WD (fm_RB f) 1 ≤ i) := fun z => c0 ((nI_leI (a := fm_WD (fm_RB f) 1) (b := i) (by omega) (by omega)).mpr z)
    have hin := fm_pin hL (p := 1) (k := i) (by decide) (Nat.lt_of_not_le c_10)
    refine lv_iload_n hx hb d_MO_areSizesRight_13 rfl (lv_at hl 1 rfl) ?_
    refine lv_if_eq (tgt := 89) hx hb d_MO_areSizesRight_14 (by decide) (fun c0 => ?_) (fun c0 => ?_)
    · have c_14 : (fm_all (i) (fm_size1 (fm_RB f))) = false := fm_bI_f c0
      refine lv_iconst (v := nI (0)) hx hb d_MO_areSizesRight_89 (by decide) ?_
      refine fm_tw (z := (fm_bI (fm_all (i + 1) (fm_size1 (fm_RB f))))) (by first | (refine fm_bI_1 ?_; simp [fm_all, fm_size1, Nat.lt_of_not_le c_29, Nat.lt_of_not_le c_47, Nat.lt_of_not_le c_65, Nat.lt_of_not_le c_82, c_14]; done) | (refine fm_bI_0 ?_; simp [fm_all, c_14]; done) | (refine fm_bI_0 ?_; simp [fm_all, fm_size1, Nat.not_lt.mpr c_29]; done) | (refine fm_bI_0 ?_; simp [fm_all, fm_size1, Nat.not_lt.mpr c_47]; done) | (refine fm_bI_0 ?_; simp [fm_all, fm_size1, Nat.not_lt.mpr c_65]; done) | (refine fm_bI_0 ?_; simp [fm_all, fm_size1, Nat.not_lt.mpr c_82]; done)) ?_
      refine lv_istore_n (lv' := [(1, .int (fm_bI (fm_all (i + 1) (fm_size1 (fm_RB f))))), (0, .ref fa), (2, .int (nI (i)))]) hx hb d_MO_areSizesRight_90 rfl hl (by decide) rfl (fun ls hl => ?_)
      refine lv_iinc (v := nI (i + 1)) (lv' := [(2, .int (nI (i + 1))), (1, .int (fm_bI (fm_all (i + 1) (fm_size1 (fm_RB f))))), (0, .ref fa)]) hx hb d_MO_areSizesRight_91 hl (k := 2) rfl (nI_1 _) (by decide) rfl (fun ls hl => ?_)
      refine lv_goto (tgt := 4) hx hb d_MO_areSizesRight_94 (by decide) ?_
      exact ih_4 (i + 1) ls (by omega) (by omega) (lv_sub hl [2, 1, 0] rfl)
    · have c_14 : (fm_all (i) (fm_size1 (fm_RB f))) = true := fm_bI_t c0
      refine lv_aload_n hx hb d_MO_areSizesRight_17 rfl (lv_at hl 0 rfl) ?_
      refine lv_iconst (v := nI (1)) hx hb d_MO_areSizesRight_18 (by decide) ?_
      refine lv_iload_n hx hb d_MO_areSizesRight_19 rfl (lv_at hl 2 rfl) ?_
      refine lv_iconst (v := nI (0)) hx hb d_MO_areSizesRight_20 (by decide) ?_
      refine fm_cs S (c_MO_at l dC dI fa cB f 1 i 0 (by omega) (hq) (by omega) (by omega)) rfl rfl k_MO_at q_3_184 ⟨Nat.le_of_ble_eq_true rfl, Nat.le_of_ble_eq_true rfl⟩ (hP.sub [0] rfl) (hK.sub [0] rfl) rfl hl.1 rfl (Nat.le_of_ble_eq_true rfl) ⟨Nat.zero_le _, Nat.zero_le _⟩ d_MO_areSizesRight_21 ?_
      have f0_21 := fm_AT_lt (fm_RB_lt f) 1 i 0
      refine lv_aload_n hx hb d_MO_areSizesRight_24 rfl (lv_at hl 0 rfl) ?_
      refine lv_iconst (v := nI (2)) hx hb d_MO_areSizesRight_25 (by decide) ?_
      refine fm_cs S (c_MO_words l dC dI fa cB f 2 (by omega) (fun _ => hq)) rfl rfl k_MO_words q_3_175 ⟨Nat.le_of_ble_eq_true rfl, Nat.le_of_ble_eq_true rfl⟩ (hP.sub [0] rfl) (hK.sub [0] rfl) rfl hl.1 rfl (Nat.le_of_ble_eq_true rfl) ⟨Nat.zero_le _, Nat.zero_le _⟩ d_MO_areSizesRight_26 ?_
      have f0_26 := fm_WD_le (fm_RB_lt f) 2
      refine lv_icmp_ge (tgt := 89) hx hb d_MO_areSizesRight_29 (by decide) (fun c0 => ?_) (fun c0 => ?_)
      · have c_29 : fm_WD (fm_RB f) 2 ≤ fm_AT (fm_RB f) 1 i 0 := (nI_leI (a := fm_WD (fm_RB f) 2) (b := fm_AT (fm_RB f) 1 i 0) (by omega) (by omega)).mp c0
        refine lv_iconst (v := nI (0)) hx hb d_MO_areSizesRight_89 (by decide) ?_
        refine fm_tw (z := (fm_bI (fm_all (i + 1) (fm_size1 (fm_RB f))))) (by first | (refine fm_bI_1 ?_; simp [fm_all, fm_size1, Nat.lt_of_not_le c_29, Nat.lt_of_not_le c_47, Nat.lt_of_not_le c_65, Nat.lt_of_not_le c_82, c_14]; done) | (refine fm_bI_0 ?_; simp [fm_all, c_14]; done) | (refine fm_bI_0 ?_; simp [fm_all, fm_size1, Nat.not_lt.mpr c_29]; done) | (refine fm_bI_0 ?_; simp [fm_all, fm_size1, Nat.not_lt.mpr c_47]; done) | (refine fm_bI_0 ?_; simp [fm_all, fm_size1, Nat.not_lt.mpr c_65]; done) | (refine fm_bI_0 ?_; simp [fm_all, fm_size1, Nat.not_lt.mpr c_82]; done)) ?_
        refine lv_istore_n (lv' := [(1, .int (fm_bI (fm_all (i + 1) (fm_size1 (fm_RB f))))), (0, .ref fa), (2, .int (nI (i)))]) hx hb d_MO_areSizesRight_90 rfl hl (by decide) rfl (fun ls hl => ?_)
        refine lv_iinc (v := nI (i + 1)) (lv' := [(2, .int (nI (i + 1))), (1, .int (fm_bI (fm_all (i + 1) (fm_size1 (fm_RB f))))), (0, .ref fa)]) hx hb d_MO_areSizesRight_91 hl (k := 2) rfl (nI_1 _) (by decide) rfl (fun ls hl => ?_)
        refine lv_goto (tgt := 4) hx hb d_MO_areSizesRight_94 (by decide) ?_
        exact ih_4 (i + 1) ls (by omega) (by omega) (lv_sub hl [2, 1, 0] rfl)
      · have c_29 : ¬ (fm_WD (fm_RB f) 2 ≤ fm_AT (fm_RB f) 1 i 0) := fun z => c0 ((nI_leI (a := fm_WD (fm_RB f) 2) (b := fm_AT (fm_RB f) 1 i 0) (by omega) (by omega)).mpr z)
        refine lv_aload_n hx hb d_MO_areSizesRight_32 rfl (lv_at hl 0 rfl) ?_
        refine lv_iconst (v := nI (1)) hx hb d_MO_areSizesRight_33 (by decide) ?_
        refine lv_iload_n hx hb d_MO_areSizesRight_34 rfl (lv_at hl 2 rfl) ?_
        refine lv_iconst (v := nI (1)) hx hb d_MO_areSizesRight_35 (by decide) ?_
        refine fm_cs S (c_MO_at l dC dI fa cB f 1 i 1 (by omega) (hq) (by omega) (by omega)) rfl rfl k_MO_at q_3_184 ⟨Nat.le_of_ble_eq_true rfl, Nat.le_of_ble_eq_true rfl⟩ (hP.sub [0] rfl) (hK.sub [0] rfl) rfl hl.1 rfl (Nat.le_of_ble_eq_true rfl) ⟨Nat.zero_le _, Nat.zero_le _⟩ d_MO_areSizesRight_36 ?_
        have f0_36 := fm_AT_lt (fm_RB_lt f) 1 i 1
        refine lv_bipush (v := nI (16)) hx hb d_MO_areSizesRight_39 (by decide) ?_
        refine lv_idiv hx hb d_MO_areSizesRight_41 (by decide) ?_
        refine fm_tw (z := nI ((fm_AT (fm_RB f) 1 i 1) / 16)) (pk_div (by omega) (by omega) (by omega)) ?_
        refine lv_aload_n hx hb d_MO_areSizesRight_42 rfl (lv_at hl 0 rfl) ?_
        refine lv_iconst (v := nI (3)) hx hb d_MO_areSizesRight_43 (by decide) ?_
        refine fm_cs S (c_MO_words l dC dI fa cB f 3 (by omega) (fun _ => hq)) rfl rfl k_MO_words q_3_175 ⟨Nat.le_of_ble_eq_true rfl, Nat.le_of_ble_eq_true rfl⟩ (hP.sub [0] rfl) (hK.sub [0] rfl) rfl hl.1 rfl (Nat.le_of_ble_eq_true rfl) ⟨Nat.zero_le _, Nat.zero_le _⟩ d_MO_areSizesRight_44 ?_
        have f0_44 := fm_WD_le (fm_RB_lt f) 3
        refine lv_icmp_ge (tgt := 89) hx hb d_MO_areSizesRight_47 (by decide) (fun c0 => ?_) (fun c0 => ?_)
        · have c_47 : fm_WD (fm_RB f) 3 ≤ (fm_AT (fm_RB f) 1 i 1) / 16 := (nI_leI (a := fm_WD (fm_RB f) 3) (b := (fm_AT (fm_RB f) 1 i 1) / 16) (by omega) (by omega)).mp c0
          refine lv_iconst (v := nI (0)) hx hb d_MO_areSizesRight_89 (by decide) ?_
          refine fm_tw (z := (fm_bI (fm_all (i + 1) (fm_size1 (fm_RB f))))) (by first | (refine fm_bI_1 ?_; simp [fm_all, fm_size1, Nat.lt_of_not_le c_29, Nat.lt_of_not_le c_47, Nat.lt_of_not_le c_65, Nat.lt_of_not_le c_82, c_14]; done) | (refine fm_bI_0 ?_; simp [fm_all, c_14]; done) | (refine fm_bI_0 ?_; simp [fm_all, fm_size1, Nat.not_lt.mpr c_29]; done) | (refine fm_bI_0 ?_; simp [fm_all, fm_size1, Nat.not_lt.mpr c_47]; done) | (refine fm_bI_0 ?_; simp [fm_all, fm_size1, Nat.not_lt.mpr c_65]; done) | (refine fm_bI_0 ?_; simp [fm_all, fm_size1, Nat.not_lt.mpr c_82]; done)) ?_
          refine lv_istore_n (lv' := [(1, .int (fm_bI (fm_all (i + 1) (fm_size1 (fm_RB f))))), (0, .ref fa), (2, .int (nI (i)))]) hx hb d_MO_areSizesRight_90 rfl hl (by decide) rfl (fun ls hl => ?_)
          refine lv_iinc (v := nI (i + 1)) (lv' := [(2, .int (nI (i + 1))), (1, .int (fm_bI (fm_all (i + 1) (fm_size1 (fm_RB f))))), (0, .ref fa)]) hx hb d_MO_areSizesRight_91 hl (k := 2) rfl (nI_1 _) (by decide) rfl (fun ls hl => ?_)
          refine lv_goto (tgt := 4) hx hb d_MO_areSizesRight_94 (by decide) ?_
          exact ih_4 (i + 1) ls (by omega) (by omega) (lv_sub hl [2, 1, 0] rfl)
        · have c_47 : ¬ (fm_WD (fm_RB f) 3 ≤ (fm_AT (fm_RB f) 1 i 1) / 16) := fun z => c0 ((nI_leI (a := fm_WD (fm_RB f) 3) (b := (fm_AT (fm_RB f) 1 i 1) / 16) (by omega) (by omega)).mpr z)
          refine lv_aload_n hx hb d_MO_areSizesRight_50 rfl (lv_at hl 0 rfl) ?_
          refine lv_iconst (v := nI (1)) hx hb d_MO_areSizesRight_51 (by decide) ?_
          refine lv_iload_n hx hb d_MO_areSizesRight_52 rfl (lv_at hl 2 rfl) ?_
          refine lv_iconst (v := nI (1)) hx hb d_MO_areSizesRight_53 (by decide) ?_
          refine fm_cs S (c_MO_at l dC dI fa cB f 1 i 1 (by omega) (hq) (by omega) (by omega)) rfl rfl k_MO_at q_3_184 ⟨Nat.le_of_ble_eq_true rfl, Nat.le_of_ble_eq_true rfl⟩ (hP.sub [0] rfl) (hK.sub [0] rfl) rfl hl.1 rfl (Nat.le_of_ble_eq_true rfl) ⟨Nat.zero_le _, Nat.zero_le _⟩ d_MO_areSizesRight_54 ?_
          have f0_54 := fm_AT_lt (fm_RB_lt f) 1 i 1
          refine lv_bipush (v := nI (16)) hx hb d_MO_areSizesRight_57 (by decide) ?_
          refine lv_irem hx hb d_MO_areSizesRight_59 (by decide) ?_
          refine fm_tw (z := nI ((fm_AT (fm_RB f) 1 i 1) % 16)) (pk_rem (by omega) (by omega) (by omega)) ?_
          refine lv_aload_n hx hb d_MO_areSizesRight_60 rfl (lv_at hl 0 rfl) ?_
          refine lv_iconst (v := nI (4)) hx hb d_MO_areSizesRight_61 (by decide) ?_
          refine fm_cs S (c_MO_words l dC dI fa cB f 4 (by omega) (fun _ => hq)) rfl rfl k_MO_words q_3_175 ⟨Nat.le_of_ble_eq_true rfl, Nat.le_of_ble_eq_true rfl⟩ (hP.sub [0] rfl) (hK.sub [0] rfl) rfl hl.1 rfl (Nat.le_of_ble_eq_true rfl) ⟨Nat.zero_le _, Nat.zero_le _⟩ d_MO_areSizesRight_62 ?_
          have f0_62 := fm_WD_le (fm_RB_lt f) 4
          refine lv_icmp_ge (tgt := 89) hx hb d_MO_areSizesRight_65 (by decide) (fun c0 => ?_) (fun c0 => ?_)
          · have c_65 : fm_WD (fm_RB f) 4 ≤ (fm_AT (fm_RB f) 1 i 1) % 16 := (nI_leI (a := fm_WD (fm_RB f) 4) (b := (fm_AT (fm_RB f) 1 i 1) % 16) (by omega) (by omega)).mp c0
            refine lv_iconst (v := nI (0)) hx hb d_MO_areSizesRight_89 (by decide) ?_
            refine fm_tw (z := (fm_bI (fm_all (i + 1) (fm_size1 (fm_RB f))))) (by first | (refine fm_bI_1 ?_; simp [fm_all, fm_size1, Nat.lt_of_not_le c_29, Nat.lt_of_not_le c_47, Nat.lt_of_not_le c_65, Nat.lt_of_not_le c_82, c_14]; done) | (refine fm_bI_0 ?_; simp [fm_all, c_14]; done) | (refine fm_bI_0 ?_; simp [fm_all, fm_size1, Nat.not_lt.mpr c_29]; done) | (refine fm_bI_0 ?_; simp [fm_all, fm_size1, Nat.not_lt.mpr c_47]; done) | (refine fm_bI_0 ?_; simp [fm_all, fm_size1, Nat.not_lt.mpr c_65]; done) | (refine fm_bI_0 ?_; simp [fm_all, fm_size1, Nat.not_lt.mpr c_82]; done)) ?_
            refine lv_istore_n (lv' := [(1, .int (fm_bI (fm_all (i + 1) (fm_size1 (fm_RB f))))), (0, .ref fa), (2, .int (nI (i)))]) hx hb d_MO_areSizesRight_90 rfl hl (by decide) rfl (fun ls hl => ?_)
            refine lv_iinc (v := nI (i + 1)) (lv' := [(2, .int (nI (i + 1))), (1, .int (fm_bI (fm_all (i + 1) (fm_size1 (fm_RB f))))), (0, .ref fa)]) hx hb d_MO_areSizesRight_91 hl (k := 2) rfl (nI_1 _) (by decide) rfl (fun ls hl => ?_)
            refine lv_goto (tgt := 4) hx hb d_MO_areSizesRight_94 (by decide) ?_
            exact ih_4 (i + 1) ls (by omega) (by omega) (lv_sub hl [2, 1, 0] rfl)
          · have c_65 : ¬ (fm_WD (fm_RB f) 4 ≤ (fm_AT (fm_RB f) 1 i 1) % 16) := fun z => c0 ((nI_leI (a := fm_WD (fm_RB f) 4) (b := (fm_AT (fm_RB f) 1 i 1) % 16) (by omega) (by omega)).mpr z)
            refine lv_aload_n hx hb d_MO_areSizesRight_68 rfl (lv_at hl 0 rfl) ?_
            refine lv_iconst (v := nI (1)) hx hb d_MO_areSizesRight_69 (by decide) ?_
            refine lv_iload_n hx hb d_MO_areSizesRight_70 rfl (lv_at hl 2 rfl) ?_
            refine lv_iconst (v := nI (2)) hx hb d_MO_areSizesRight_71 (by decide) ?_
            refine fm_cs S (c_MO_at l dC dI fa cB f 1 i 2 (by omega) (hq) (by omega) (by omega)) rfl rfl k_MO_at q_3_184 ⟨Nat.le_of_ble_eq_true rfl, Nat.le_of_ble_eq_true rfl⟩ (hP.sub [0] rfl) (hK.sub [0] rfl) rfl hl.1 rfl (Nat.le_of_ble_eq_true rfl) ⟨Nat.zero_le _, Nat.zero_le _⟩ d_MO_areSizesRight_72 ?_
            have f0_72 := fm_AT_lt (fm_RB_lt f) 1 i 2
            refine lv_iconst (v := nI (4)) hx hb d_MO_areSizesRight_75 (by decide) ?_
            refine lv_idiv hx hb d_MO_areSizesRight_76 (by decide) ?_
            refine fm_tw (z := nI ((fm_AT (fm_RB f) 1 i 2) / 4)) (pk_div (by omega) (by omega) (by omega)) ?_
            refine lv_aload_n hx hb d_MO_areSizesRight_77 rfl (lv_at hl 0 rfl) ?_
            refine lv_iconst (v := nI (5)) hx hb d_MO_areSizesRight_78 (by decide) ?_
            refine fm_cs S (c_MO_words l dC dI fa cB f 5 (by omega) (fun _ => hq)) rfl rfl k_MO_words q_3_175 ⟨Nat.le_of_ble_eq_true rfl, Nat.le_of_ble_eq_true rfl⟩ (hP.sub [0] rfl) (hK.sub [0] rfl) rfl hl.1 rfl (Nat.le_of_ble_eq_true rfl) ⟨Nat.zero_le _, Nat.zero_le _⟩ d_MO_areSizesRight_79 ?_
            have f0_79 := fm_WD_le (fm_RB_lt f) 5
            refine lv_icmp_ge (tgt := 89) hx hb d_MO_areSizesRight_82 (by decide) (fun c0 => ?_) (fun c0 => ?_)
            · have c_82 : fm_WD (fm_RB f) 5 ≤ (fm_AT (fm_RB f) 1 i 2) / 4 := (nI_leI (a := fm_WD (fm_RB f) 5) (b := (fm_AT (fm_RB f) 1 i 2) / 4) (by omega) (by omega)).mp c0
              refine lv_iconst (v := nI (0)) hx hb d_MO_areSizesRight_89 (by decide) ?_
              refine fm_tw (z := (fm_bI (fm_all (i + 1) (fm_size1 (fm_RB f))))) (by first | (refine fm_bI_1 ?_; simp [fm_all, fm_size1, Nat.lt_of_not_le c_29, Nat.lt_of_not_le c_47, Nat.lt_of_not_le c_65, Nat.lt_of_not_le c_82, c_14]; done) | (refine fm_bI_0 ?_; simp [fm_all, c_14]; done) | (refine fm_bI_0 ?_; simp [fm_all, fm_size1, Nat.not_lt.mpr c_29]; done) | (refine fm_bI_0 ?_; simp [fm_all, fm_size1, Nat.not_lt.mpr c_47]; done) | (refine fm_bI_0 ?_; simp [fm_all, fm_size1, Nat.not_lt.mpr c_65]; done) | (refine fm_bI_0 ?_; simp [fm_all, fm_size1, Nat.not_lt.mpr c_82]; done)) ?_
              refine lv_istore_n (lv' := [(1, .int (fm_bI (fm_all (i + 1) (fm_size1 (fm_RB f))))), (0, .ref fa), (2, .int (nI (i)))]) hx hb d_MO_areSizesRight_90 rfl hl (by decide) rfl (fun ls hl => ?_)
              refine lv_iinc (v := nI (i + 1)) (lv' := [(2, .int (nI (i + 1))), (1, .int (fm_bI (fm_all (i + 1) (fm_size1 (fm_RB f))))), (0, .ref fa)]) hx hb d_MO_areSizesRight_91 hl (k := 2) rfl (nI_1 _) (by decide) rfl (fun ls hl => ?_)
              refine lv_goto (tgt := 4) hx hb d_MO_areSizesRight_94 (by decide) ?_
              exact ih_4 (i + 1) ls (by omega) (by omega) (lv_sub hl [2, 1, 0] rfl)
            · have c_82 : ¬ (fm_WD (fm_RB f) 5 ≤ (fm_AT (fm_RB f) 1 i 2) / 4) := fun z => c0 ((nI_leI (a := fm_WD (fm_RB f) 5) (b := (fm_AT (fm_RB f) 1 i 2) / 4) (by omega) (by omega)).mpr z)
              refine lv_iconst (v := nI (1)) hx hb d_MO_areSizesRight_85 (by decide) ?_
              refine lv_goto (tgt := 90) hx hb d_MO_areSizesRight_86 (by decide) ?_
              refine fm_tw (z := (fm_bI (fm_all (i + 1) (fm_size1 (fm_RB f))))) (by first | (refine fm_bI_1 ?_; simp [fm_all, fm_size1, Nat.lt_of_not_le c_29, Nat.lt_of_not_le c_47, Nat.lt_of_not_le c_65, Nat.lt_of_not_le c_82, c_14]; done) | (refine fm_bI_0 ?_; simp [fm_all, c_14]; done) | (refine fm_bI_0 ?_; simp [fm_all, fm_size1, Nat.not_lt.mpr c_29]; done) | (refine fm_bI_0 ?_; simp [fm_all, fm_size1, Nat.not_lt.mpr c_47]; done) | (refine fm_bI_0 ?_; simp [fm_all, fm_size1, Nat.not_lt.mpr c_65]; done) | (refine fm_bI_0 ?_; simp [fm_all, fm_size1, Nat.not_lt.mpr c_82]; done)) ?_
              refine lv_istore_n (lv' := [(1, .int (fm_bI (fm_all (i + 1) (fm_size1 (fm_RB f))))), (0, .ref fa), (2, .int (nI (i)))]) hx hb d_MO_areSizesRight_90 rfl hl (by decide) rfl (fun ls hl => ?_)
              refine lv_iinc (v := nI (i + 1)) (lv' := [(2, .int (nI (i + 1))), (1, .int (fm_bI (fm_all (i + 1) (fm_size1 (fm_RB f))))), (0, .ref fa)]) hx hb d_MO_areSizesRight_91 hl (k := 2) rfl (nI_1 _) (by decide) rfl (fun ls hl => ?_)
              refine lv_goto (tgt := 4) hx hb d_MO_areSizesRight_94 (by decide) ?_
              exact ih_4 (i + 1) ls (by omega) (by omega) (lv_sub hl [2, 1, 0] rfl)
theorem d_MO_isLargerRight_0 : decode b_MO_isLargerRight 0 = .ok (.aload_n 0, 1) := by decide +kernel
theorem d_MO_isLargerRight_1 : decode b_MO_isLargerRight 1 = .ok (.iload_n 1, 1) := by decide +kernel
theorem d_MO_isLargerRight_2 : decode b_MO_isLargerRight 2 = .ok (.invokestatic 50, 3) := by decide +kernel
theorem d_MO_isLargerRight_5 : decode b_MO_isLargerRight 5 = .ok (.istore_n 2, 1) := by decide +kernel
theorem d_MO_isLargerRight_6 : decode b_MO_isLargerRight 6 = .ok (.aload_n 0, 1) := by decide +kernel
theorem d_MO_isLargerRight_7 : decode b_MO_isLargerRight 7 = .ok (.iload_n 2, 1) := by decide +kernel
theorem d_MO_isLargerRight_8 : decode b_MO_isLargerRight 8 = .ok (.invokestatic 53, 3) := by decide +kernel
theorem d_MO_isLargerRight_11 : decode b_MO_isLargerRight 11 = .ok (.ifCond .ne 5, 3) := by decide +kernel
theorem d_MO_isLargerRight_14 : decode b_MO_isLargerRight 14 = .ok (.iconst 0, 1) := by decide +kernel
theorem d_MO_isLargerRight_15 : decode b_MO_isLargerRight 15 = .ok (.ireturn, 1) := by decide +kernel
theorem d_MO_isLargerRight_16 : decode b_MO_isLargerRight 16 = .ok (.iconst 0, 1) := by decide +kernel
theorem d_MO_isLargerRight_17 : decode b_MO_isLargerRight 17 = .ok (.istore_n 3, 1) := by decide +kernel
theorem d_MO_isLargerRight_18 : decode b_MO_isLargerRight 18 = .ok (.iload_n 3, 1) := by decide +kernel
theorem d_MO_isLargerRight_19 : decode b_MO_isLargerRight 19 = .ok (.sipush 256, 3) := by decide +kernel
theorem d_MO_isLargerRight_22 : decode b_MO_isLargerRight 22 = .ok (.if_icmp .ge 41, 3) := by decide +kernel
theorem d_MO_isLargerRight_25 : decode b_MO_isLargerRight 25 = .ok (.iload_n 2, 1) := by decide +kernel
theorem d_MO_isLargerRight_26 : decode b_MO_isLargerRight 26 = .ok (.iload_n 1, 1) := by decide +kernel
theorem d_MO_isLargerRight_27 : decode b_MO_isLargerRight 27 = .ok (.if_icmp .ne 5, 3) := by decide +kernel
theorem d_MO_isLargerRight_30 : decode b_MO_isLargerRight 30 = .ok (.iconst 0, 1) := by decide +kernel
theorem d_MO_isLargerRight_31 : decode b_MO_isLargerRight 31 = .ok (.ireturn, 1) := by decide +kernel
theorem d_MO_isLargerRight_32 : decode b_MO_isLargerRight 32 = .ok (.aload_n 0, 1) := by decide +kernel
theorem d_MO_isLargerRight_33 : decode b_MO_isLargerRight 33 = .ok (.iload_n 2, 1) := by decide +kernel
theorem d_MO_isLargerRight_34 : decode b_MO_isLargerRight 34 = .ok (.invokestatic 53, 3) := by decide +kernel
theorem d_MO_isLargerRight_37 : decode b_MO_isLargerRight 37 = .ok (.ifCond .eq 12, 3) := by decide +kernel
theorem d_MO_isLargerRight_40 : decode b_MO_isLargerRight 40 = .ok (.aload_n 0, 1) := by decide +kernel
theorem d_MO_isLargerRight_41 : decode b_MO_isLargerRight 41 = .ok (.iload_n 2, 1) := by decide +kernel
theorem d_MO_isLargerRight_42 : decode b_MO_isLargerRight 42 = .ok (.invokestatic 57, 3) := by decide +kernel
theorem d_MO_isLargerRight_45 : decode b_MO_isLargerRight 45 = .ok (.iconst 2, 1) := by decide +kernel
theorem d_MO_isLargerRight_46 : decode b_MO_isLargerRight 46 = .ok (.if_icmp .eq 5, 3) := by decide +kernel
theorem d_MO_isLargerRight_49 : decode b_MO_isLargerRight 49 = .ok (.iconst 1, 1) := by decide +kernel
theorem d_MO_isLargerRight_50 : decode b_MO_isLargerRight 50 = .ok (.ireturn, 1) := by decide +kernel
theorem d_MO_isLargerRight_51 : decode b_MO_isLargerRight 51 = .ok (.aload_n 0, 1) := by decide +kernel
theorem d_MO_isLargerRight_52 : decode b_MO_isLargerRight 52 = .ok (.iload_n 2, 1) := by decide +kernel
theorem d_MO_isLargerRight_53 : decode b_MO_isLargerRight 53 = .ok (.invokestatic 50, 3) := by decide +kernel
theorem d_MO_isLargerRight_56 : decode b_MO_isLargerRight 56 = .ok (.istore_n 2, 1) := by decide +kernel
theorem d_MO_isLargerRight_57 : decode b_MO_isLargerRight 57 = .ok (.iinc 3 1, 3) := by decide +kernel
theorem d_MO_isLargerRight_60 : decode b_MO_isLargerRight 60 = .ok (.goto (-42), 3) := by decide +kernel
theorem d_MO_isLargerRight_63 : decode b_MO_isLargerRight 63 = .ok (.iconst 1, 1) := by decide +kernel
theorem d_MO_isLargerRight_64 : decode b_MO_isLargerRight 64 = .ok (.ireturn, 1) := by decide +kernel
set_option maxHeartbeats 4000000 in
set_option maxRecDepth 100000 in
theorem c_MO_isLargerRight (l : Launch) (dC : Nat → ClassId) (dI : Nat → Nat → Nat) (fa : Nat) (cB : ClassId) (f : Nat → Int32) (c : Nat) (hL : fm_Len (fm_RB f)) (h1 : fm_HF (fm_RB f) 2 ≤ c) (h2 : c ≤ fm_HF (fm_RB f) 3) : fm_M l (dC, dI) y_MO_isLargerRight w_MO_isLargerRight ({ frames := 5, cells := 0, slots := 0, locals := 109 }) [.ref fa, .int (nI (c))] [(fa, .inl (cB, 8192, .inl (f)))] [(cB, .byte)] ((fm_bI (fm_larger (fm_RB f) c))) := by
  refine Met.ofW (cc := b_MO_isLargerRight) (maxL := 4) (ret := (some .boolean)) (by decide) rfl ?_
  intro pg ev s m args below meth cd s₁ BD hml hv
  obtain ⟨rfl, hP, hK⟩ := hv
  have hx := BD.exec
  have hb := BD.bytes
  have hr := BD.returns
  have hts := atoms_spec (ws := w_MO_isLargerRight) BD.pre
  have ht : ∀ w ∈ fm_T, w.before _ s = true := fun w h => hts w (List.mem_cons_of_mem _ h)
  have hown : s.vm.findClass R_MO = some m.cls := findClass_of_methodNamed BD.named
  have hlocks := BD.notSynchronized
  have S : CallFix pg m cd b_MO_isLargerRight 4 s _ w_MO_isLargerRight R_MO := ⟨hx, hb, hml, hown, hts⟩
  have hl := lv_entry ([.ref fa, .int (nI (c))]) (n := 4) (Nat.le_of_ble_eq_true rfl)
  rw [lg_entry_eq]
  generalize (lg_sl ([.ref fa, .int (nI (c))]) ++ List.replicate (4 - (lg_sl ([.ref fa, .int (nI (c))])).length) Slot.unset).toArray = ls at hl ⊢
  have hl : lv_has ls 4 [(0, .ref fa), (1, .int (nI (c)))] := hl
  obtain ⟨-, hq, h3, h10⟩ := id hL
  have hci := fm_cin hL h1 h2
  refine lv_aload_n hx hb d_MO_isLargerRight_0 rfl (lv_at hl 0 rfl) ?_
  refine lv_iload_n hx hb d_MO_isLargerRight_1 rfl (lv_at hl 1 rfl) ?_
  refine fm_cs S (c_MO_rest l dC dI fa cB f c (hL) (by omega) (by omega)) rfl rfl k_MO_rest q_3_200 ⟨Nat.le_of_ble_eq_true rfl, Nat.le_of_ble_eq_true rfl⟩ (hP.sub [0] rfl) (hK.sub [0] rfl) rfl hl.1 rfl (Nat.le_of_ble_eq_true rfl) ⟨Nat.zero_le _, Nat.zero_le _⟩ d_MO_isLargerRight_2 ?_
  have f0_2 := fm_rest_lt (fm_RB_lt f) c
  refine lv_istore_n (lv' := [(2, .int (nI (fm_rest (fm_RB f) c))), (0, .ref fa), (1, .int (nI (c)))]) hx hb d_MO_isLargerRight_5 rfl hl (by decide) rfl (fun ls hl => ?_)
  refine lv_aload_n hx hb d_MO_isLargerRight_6 rfl (lv_at hl 1 rfl) ?_
  refine lv_iload_n hx hb d_MO_isLargerRight_7 rfl (lv_at hl 0 rfl) ?_
  refine fm_cs S (c_MO_isThereN l dC dI fa cB f (fm_rest (fm_RB f) c) (by omega) (hL)) rfl rfl k_MO_isThere q_3_194 ⟨Nat.le_of_ble_eq_true rfl, Nat.le_of_ble_eq_true rfl⟩ (hP.sub [0] rfl) (hK.sub [0] rfl) rfl hl.1 rfl (Nat.le_of_ble_eq_true rfl) ⟨Nat.zero_le _, Nat.zero_le _⟩ d_MO_isLargerRight_8 ?_
  refine lv_if_ne (tgt := 16) hx hb d_MO_isLargerRight_11 (by decide) (fun c0 => ?_) (fun c0 => ?_)
  · have c_11 : (fm_th (fm_RB f) (fm_rest (fm_RB f) c)) = true := fm_bI_t c0
    refine lv_iconst (v := nI (0)) hx hb d_MO_isLargerRight_16 (by decide) ?_
    refine lv_istore_n (lv' := [(3, .int (nI (0))), (2, .int (nI (fm_rest (fm_RB f) c))), (0, .ref fa), (1, .int (nI (c)))]) hx hb d_MO_isLargerRight_17 rfl hl (by decide) rfl (fun ls hl => ?_)
    refine fm_loop2 (LV := fun (i : Nat) (x : Nat) => [(0, .ref fa), (1, .int (nI (c))), (2, .int (nI (x))), (3, .int (nI (i)))]) (I := fun (i : Nat) (x : Nat) => i ≤ 256 ∧ x < 256 ∧ fm_lead (fm_RB f) c (256 - i) x = fm_lead (fm_RB f) c 256 (fm_rest (fm_RB f) c)) (μ := fun (i : Nat) (x : Nat) => 256 - i) ?_ 0 (fm_rest (fm_RB f) c) (⟨by decide, by omega, rfl⟩) ls (lv_sub hl [2, 3, 1, 0] rfl)
    intro i x hI_18 ih_18 ls hl
    have hl : lv_has ls 4 [(0, .ref fa), (1, .int (nI (c))), (2, .int (nI (x))), (3, .int (nI (i)))] := hl
    obtain ⟨hi, hx256, hlead⟩ := hI_18
    refine lv_iload_n hx hb d_MO_isLargerRight_18 rfl (lv_at hl 3 rfl) ?_
    refine lv_sipush (v := nI (256)) hx hb d_MO_isLargerRight_19 (by decide) ?_
    refine lv_icmp_ge (tgt := 63) hx hb d_MO_isLargerRight_22 (by decide) (fun c0 => ?_) (fun c0 => ?_)
    · have c_22 : 256 ≤ i := (nI_leI (a := 256) (b := i) (by omega) (by omega)).mp c0
      refine lv_iconst (v := nI (1)) hx hb d_MO_isLargerRight_63 (by decide) ?_
      exact W.zret (ty := .boolean) hx hb hr (rfl) (fun t ht hW => ⟨_, rfl, by unfold fm_larger; rw [c_11, ← hlead, show 256 - i = 0 by omega]; rfl, ht⟩) (fun q hq => by cases hq) d_MO_isLargerRight_64
    · have c_22 : ¬ (256 ≤ i) := fun z => c0 ((nI_leI (a := 256) (b := i) (by omega) (by omega)).mpr z)
      refine lv_iload_n hx hb d_MO_isLargerRight_25 rfl (lv_at hl 2 rfl) ?_
      refine lv_iload_n hx hb d_MO_isLargerRight_26 rfl (lv_at hl 1 rfl) ?_
      refine lv_icmp_ne (tgt := 32) hx hb d_MO_isLargerRight_27 (by decide) (fun c0 => ?_) (fun c0 => ?_)
      · have c_27 : ¬ (x = c) := fun z => c0 ((nI_eq (a := x) (b := c) (by omega) (by omega)).mpr z)
        refine lv_aload_n hx hb d_MO_isLargerRight_32 rfl (lv_at hl 0 rfl) ?_
        refine lv_iload_n hx hb d_MO_isLargerRight_33 rfl (lv_at hl 2 rfl) ?_
        refine fm_cs S (c_MO_isThereN l dC dI fa cB f x (by omega) (hL)) rfl rfl k_MO_isThere q_3_194 ⟨Nat.le_of_ble_eq_true rfl, Nat.le_of_ble_eq_true rfl⟩ (hP.sub [0] rfl) (hK.sub [0] rfl) rfl hl.1 rfl (Nat.le_of_ble_eq_true rfl) ⟨Nat.zero_le _, Nat.zero_le _⟩ d_MO_isLargerRight_34 ?_
        refine lv_if_eq (tgt := 49) hx hb d_MO_isLargerRight_37 (by decide) (fun c0 => ?_) (fun c0 => ?_)
        · have c_37 : (fm_th (fm_RB f) x) = false := fm_bI_f c0
          refine lv_iconst (v := nI (1)) hx hb d_MO_isLargerRight_49 (by decide) ?_
          exact W.zret (ty := .boolean) hx hb hr (rfl) (fun t ht hW => ⟨_, rfl, by unfold fm_larger; rw [c_11, ← hlead, fm_lead_s (by omega), if_neg c_27]; first | (rw [if_pos (Or.inl c_37)]; rfl) | (rw [if_pos (Or.inr c_46)]; rfl), ht⟩) (fun q hq => by cases hq) d_MO_isLargerRight_50
        · have c_37 : (fm_th (fm_RB f) x) = true := fm_bI_t c0
          obtain ⟨hx1, hx2, -⟩ := fm_th_in c_37
          refine lv_aload_n hx hb d_MO_isLargerRight_40 rfl (lv_at hl 0 rfl) ?_
          refine lv_iload_n hx hb d_MO_isLargerRight_41 rfl (lv_at hl 2 rfl) ?_
          refine fm_cs S (c_MO_tag l dC dI fa cB f x (hL) (hx1) (hx2)) rfl rfl k_MO_tag q_3_197 ⟨Nat.le_of_ble_eq_true rfl, Nat.le_of_ble_eq_true rfl⟩ (hP.sub [0] rfl) (hK.sub [0] rfl) rfl hl.1 rfl (Nat.le_of_ble_eq_true rfl) ⟨Nat.zero_le _, Nat.zero_le _⟩ d_MO_isLargerRight_42 ?_
          have f0_42 := fm_tag_lt (fm_RB f) x
          refine lv_iconst (v := nI (2)) hx hb d_MO_isLargerRight_45 (by decide) ?_
          refine lv_icmp_eq (tgt := 51) hx hb d_MO_isLargerRight_46 (by decide) (fun c0 => ?_) (fun c0 => ?_)
          · have c_46 : fm_tag (fm_RB f) x = 2 := (nI_eq (a := fm_tag (fm_RB f) x) (b := 2) (by omega) (by omega)).mp c0
            refine lv_aload_n hx hb d_MO_isLargerRight_51 rfl (lv_at hl 0 rfl) ?_
            refine lv_iload_n hx hb d_MO_isLargerRight_52 rfl (lv_at hl 2 rfl) ?_
            refine fm_cs S (c_MO_rest l dC dI fa cB f x (hL) (hx1) (hx2)) rfl rfl k_MO_rest q_3_200 ⟨Nat.le_of_ble_eq_true rfl, Nat.le_of_ble_eq_true rfl⟩ (hP.sub [0] rfl) (hK.sub [0] rfl) rfl hl.1 rfl (Nat.le_of_ble_eq_true rfl) ⟨Nat.zero_le _, Nat.zero_le _⟩ d_MO_isLargerRight_53 ?_
            have f0_53 := fm_rest_lt (fm_RB_lt f) x
            refine lv_istore_n (lv' := [(2, .int (nI (fm_rest (fm_RB f) x))), (0, .ref fa), (1, .int (nI (c))), (3, .int (nI (i)))]) hx hb d_MO_isLargerRight_56 rfl hl (by decide) rfl (fun ls hl => ?_)
            refine lv_iinc (v := nI (i + 1)) (lv' := [(3, .int (nI (i + 1))), (2, .int (nI (fm_rest (fm_RB f) x))), (0, .ref fa), (1, .int (nI (c)))]) hx hb d_MO_isLargerRight_57 hl (k := 3) rfl (nI_1 _) (by decide) rfl (fun ls hl => ?_)
            refine lv_goto (tgt := 18) hx hb d_MO_isLargerRight_60 (by decide) ?_
            exact ih_18 (i + 1) (fm_rest (fm_RB f) x) ls (⟨by omega, by omega, by rw [← hlead, fm_lead_s (i := i) (x := x) (by omega), if_neg c_27, if_neg (fun z => z.elim (fun q => by rw [c_37] at q; cases q) (fun q => q c_46))]⟩) (by omega) (lv_sub hl [2, 3, 1, 0] rfl)
          · have c_46 : ¬ (fm_tag (fm_RB f) x = 2) := fun z => c0 ((nI_eq (a := fm_tag (fm_RB f) x) (b := 2) (by omega) (by omega)).mpr z)
            refine lv_iconst (v := nI (1)) hx hb d_MO_isLargerRight_49 (by decide) ?_
            exact W.zret (ty := .boolean) hx hb hr (rfl) (fun t ht hW => ⟨_, rfl, by unfold fm_larger; rw [c_11, ← hlead, fm_lead_s (by omega), if_neg c_27]; first | (rw [if_pos (Or.inl c_37)]; rfl) | (rw [if_pos (Or.inr c_46)]; rfl), ht⟩) (fun q hq => by cases hq) d_MO_isLargerRight_50
      · have c_27 : x = c := (nI_eq (a := x) (b := c) (by omega) (by omega)).mp c0
        refine lv_iconst (v := nI (0)) hx hb d_MO_isLargerRight_30 (by decide) ?_
        exact W.zret (ty := .boolean) hx hb hr (rfl) (fun t ht hW => ⟨_, rfl, by unfold fm_larger; rw [c_11, ← hlead, fm_lead_s (by omega), if_pos c_27]; rfl, ht⟩) (fun q hq => by cases hq) d_MO_isLargerRight_31
  · have c_11 : (fm_th (fm_RB f) (fm_rest (fm_RB f) c)) = false := fm_bI_f c0
    refine lv_iconst (v := nI (0)) hx hb d_MO_isLargerRight_14 (by decide) ?_
    exact W.zret (ty := .boolean) hx hb hr (rfl) (fun t ht hW => ⟨_, rfl, by unfold fm_larger; rw [c_11]; rfl, ht⟩) (fun q hq => by cases hq) d_MO_isLargerRight_15
theorem d_MO_areTagsRight_0 : decode b_MO_areTagsRight 0 = .ok (.iconst 1, 1) := by decide +kernel
theorem d_MO_areTagsRight_1 : decode b_MO_areTagsRight 1 = .ok (.istore_n 1, 1) := by decide +kernel
theorem d_MO_areTagsRight_2 : decode b_MO_areTagsRight 2 = .ok (.aload_n 0, 1) := by decide +kernel
theorem d_MO_areTagsRight_3 : decode b_MO_areTagsRight 3 = .ok (.iconst 2, 1) := by decide +kernel
theorem d_MO_areTagsRight_4 : decode b_MO_areTagsRight 4 = .ok (.invokestatic 33, 3) := by decide +kernel
theorem d_MO_areTagsRight_7 : decode b_MO_areTagsRight 7 = .ok (.istore_n 2, 1) := by decide +kernel
theorem d_MO_areTagsRight_8 : decode b_MO_areTagsRight 8 = .ok (.iload_n 2, 1) := by decide +kernel
theorem d_MO_areTagsRight_9 : decode b_MO_areTagsRight 9 = .ok (.aload_n 0, 1) := by decide +kernel
theorem d_MO_areTagsRight_10 : decode b_MO_areTagsRight 10 = .ok (.iconst 3, 1) := by decide +kernel
theorem d_MO_areTagsRight_11 : decode b_MO_areTagsRight 11 = .ok (.invokestatic 33, 3) := by decide +kernel
theorem d_MO_areTagsRight_14 : decode b_MO_areTagsRight 14 = .ok (.if_icmp .gt 84, 3) := by decide +kernel
theorem d_MO_areTagsRight_17 : decode b_MO_areTagsRight 17 = .ok (.aload_n 0, 1) := by decide +kernel
theorem d_MO_areTagsRight_18 : decode b_MO_areTagsRight 18 = .ok (.iload_n 2, 1) := by decide +kernel
theorem d_MO_areTagsRight_19 : decode b_MO_areTagsRight 19 = .ok (.invokestatic 53, 3) := by decide +kernel
theorem d_MO_areTagsRight_22 : decode b_MO_areTagsRight 22 = .ok (.ifCond .eq 70, 3) := by decide +kernel
theorem d_MO_areTagsRight_25 : decode b_MO_areTagsRight 25 = .ok (.aload_n 0, 1) := by decide +kernel
theorem d_MO_areTagsRight_26 : decode b_MO_areTagsRight 26 = .ok (.iload_n 2, 1) := by decide +kernel
theorem d_MO_areTagsRight_27 : decode b_MO_areTagsRight 27 = .ok (.invokestatic 57, 3) := by decide +kernel
theorem d_MO_areTagsRight_30 : decode b_MO_areTagsRight 30 = .ok (.istore_n 3, 1) := by decide +kernel
theorem d_MO_areTagsRight_31 : decode b_MO_areTagsRight 31 = .ok (.iload_n 1, 1) := by decide +kernel
theorem d_MO_areTagsRight_32 : decode b_MO_areTagsRight 32 = .ok (.ifCond .eq 58, 3) := by decide +kernel
theorem d_MO_areTagsRight_35 : decode b_MO_areTagsRight 35 = .ok (.iload_n 3, 1) := by decide +kernel
theorem d_MO_areTagsRight_36 : decode b_MO_areTagsRight 36 = .ok (.iconst 1, 1) := by decide +kernel
theorem d_MO_areTagsRight_37 : decode b_MO_areTagsRight 37 = .ok (.if_icmp .ne 17, 3) := by decide +kernel
theorem d_MO_areTagsRight_40 : decode b_MO_areTagsRight 40 = .ok (.aload_n 0, 1) := by decide +kernel
theorem d_MO_areTagsRight_41 : decode b_MO_areTagsRight 41 = .ok (.iload_n 2, 1) := by decide +kernel
theorem d_MO_areTagsRight_42 : decode b_MO_areTagsRight 42 = .ok (.invokestatic 50, 3) := by decide +kernel
theorem d_MO_areTagsRight_45 : decode b_MO_areTagsRight 45 = .ok (.aload_n 0, 1) := by decide +kernel
theorem d_MO_areTagsRight_46 : decode b_MO_areTagsRight 46 = .ok (.bipush 6, 2) := by decide +kernel
theorem d_MO_areTagsRight_48 : decode b_MO_areTagsRight 48 = .ok (.invokestatic 37, 3) := by decide +kernel
theorem d_MO_areTagsRight_51 : decode b_MO_areTagsRight 51 = .ok (.if_icmp .ge 39, 3) := by decide +kernel
theorem d_MO_areTagsRight_54 : decode b_MO_areTagsRight 54 = .ok (.iload_n 3, 1) := by decide +kernel
theorem d_MO_areTagsRight_55 : decode b_MO_areTagsRight 55 = .ok (.iconst 3, 1) := by decide +kernel
theorem d_MO_areTagsRight_56 : decode b_MO_areTagsRight 56 = .ok (.if_icmp .ne 17, 3) := by decide +kernel
theorem d_MO_areTagsRight_59 : decode b_MO_areTagsRight 59 = .ok (.aload_n 0, 1) := by decide +kernel
theorem d_MO_areTagsRight_60 : decode b_MO_areTagsRight 60 = .ok (.iload_n 2, 1) := by decide +kernel
theorem d_MO_areTagsRight_61 : decode b_MO_areTagsRight 61 = .ok (.invokestatic 50, 3) := by decide +kernel
theorem d_MO_areTagsRight_64 : decode b_MO_areTagsRight 64 = .ok (.aload_n 0, 1) := by decide +kernel
theorem d_MO_areTagsRight_65 : decode b_MO_areTagsRight 65 = .ok (.bipush 8, 2) := by decide +kernel
theorem d_MO_areTagsRight_67 : decode b_MO_areTagsRight 67 = .ok (.invokestatic 37, 3) := by decide +kernel
theorem d_MO_areTagsRight_70 : decode b_MO_areTagsRight 70 = .ok (.if_icmp .ge 20, 3) := by decide +kernel
theorem d_MO_areTagsRight_73 : decode b_MO_areTagsRight 73 = .ok (.iload_n 3, 1) := by decide +kernel
theorem d_MO_areTagsRight_74 : decode b_MO_areTagsRight 74 = .ok (.iconst 2, 1) := by decide +kernel
theorem d_MO_areTagsRight_75 : decode b_MO_areTagsRight 75 = .ok (.if_icmp .ne 11, 3) := by decide +kernel
theorem d_MO_areTagsRight_78 : decode b_MO_areTagsRight 78 = .ok (.aload_n 0, 1) := by decide +kernel
theorem d_MO_areTagsRight_79 : decode b_MO_areTagsRight 79 = .ok (.iload_n 2, 1) := by decide +kernel
theorem d_MO_areTagsRight_80 : decode b_MO_areTagsRight 80 = .ok (.invokestatic 60, 3) := by decide +kernel
theorem d_MO_areTagsRight_83 : decode b_MO_areTagsRight 83 = .ok (.ifCond .eq 7, 3) := by decide +kernel
theorem d_MO_areTagsRight_86 : decode b_MO_areTagsRight 86 = .ok (.iconst 1, 1) := by decide +kernel
theorem d_MO_areTagsRight_87 : decode b_MO_areTagsRight 87 = .ok (.goto 4, 3) := by decide +kernel
theorem d_MO_areTagsRight_90 : decode b_MO_areTagsRight 90 = .ok (.iconst 0, 1) := by decide +kernel
theorem d_MO_areTagsRight_91 : decode b_MO_areTagsRight 91 = .ok (.istore_n 1, 1) := by decide +kernel
theorem d_MO_areTagsRight_92 : decode b_MO_areTagsRight 92 = .ok (.iinc 2 1, 3) := by decide +kernel
theorem d_MO_areTagsRight_95 : decode b_MO_areTagsRight 95 = .ok (.goto (-87), 3) := by decide +kernel
theorem d_MO_areTagsRight_98 : decode b_MO_areTagsRight 98 = .ok (.iload_n 1, 1) := by decide +kernel
theorem d_MO_areTagsRight_99 : decode b_MO_areTagsRight 99 = .ok (.ireturn, 1) := by decide +kernel
set_option maxHeartbeats 4000000 in
set_option maxRecDepth 100000 in
theorem c_MO_areTagsRight (l : Launch) (dC : Nat → ClassId) (dI : Nat → Nat → Nat) (fa : Nat) (cB : ClassId) (f : Nat → Int32) (hL : fm_Len (fm_RB f)) : fm_M l (dC, dI) y_MO_areTagsRight w_MO_areTagsRight ({ frames := 6, cells := 0, slots := 0, locals := 132 }) [.ref fa] [(fa, .inl (cB, 8192, .inl (f)))] [(cB, .byte)] ((fm_bI (fm_all (fm_WD (fm_RB f) 1) (fun k => fm_tag1 (fm_RB f) (fm_HF (fm_RB f) 2 + k))))) := by
  refine Met.ofW (cc := b_MO_areTagsRight) (maxL := 4) (ret := (some .boolean)) (by decide) rfl ?_
  intro pg ev s m args below meth cd s₁ BD hml hv
  obtain ⟨rfl, hP, hK⟩ := hv
  have hx := BD.exec
  have hb := BD.bytes
  have hr := BD.returns
  have hts := atoms_spec (ws := w_MO_areTagsRight) BD.pre
  have ht : ∀ w ∈ fm_T, w.before _ s = true := fun w h => hts w (List.mem_cons_of_mem _ h)
  have hown : s.vm.findClass R_MO = some m.cls := findClass_of_methodNamed BD.named
  have hlocks := BD.notSynchronized
  have S : CallFix pg m cd b_MO_areTagsRight 4 s _ w_MO_areTagsRight R_MO := ⟨hx, hb, hml, hown, hts⟩
  have hl := lv_entry ([.ref fa]) (n := 4) (Nat.le_of_ble_eq_true rfl)
  rw [lg_entry_eq]
  generalize (lg_sl ([.ref fa]) ++ List.replicate (4 - (lg_sl ([.ref fa])).length) Slot.unset).toArray = ls at hl ⊢
  have hl : lv_has ls 4 [(0, .ref fa)] := hl
  obtain ⟨-, hq, h3, h10⟩ := id hL
  have hw1 := fm_WD1 (fm_RB f)
  refine lv_iconst (v := nI (1)) hx hb d_MO_areTagsRight_0 (by decide) ?_
  refine lv_istore_n (lv' := [(1, .int (nI (1))), (0, .ref fa)]) hx hb d_MO_areTagsRight_1 rfl hl (by decide) rfl (fun ls hl => ?_)
  refine lv_aload_n hx hb d_MO_areTagsRight_2 rfl (lv_at hl 1 rfl) ?_
  refine lv_iconst (v := nI (2)) hx hb d_MO_areTagsRight_3 (by decide) ?_
  refine fm_cs S (c_MO_half l dC dI fa cB f 2 (by omega)) rfl rfl k_MO_half q_3_172 ⟨Nat.le_of_ble_eq_true rfl, Nat.le_of_ble_eq_true rfl⟩ (hP.sub [0] rfl) (hK.sub [0] rfl) rfl hl.1 rfl (Nat.le_of_ble_eq_true rfl) ⟨Nat.zero_le _, Nat.zero_le _⟩ d_MO_areTagsRight_4 ?_
  have f0_4 := fm_HF_lt (fm_RB_lt f) 2
  refine lv_istore_n (lv' := [(2, .int (nI (fm_HF (fm_RB f) 2))), (1, .int (nI (1))), (0, .ref fa)]) hx hb d_MO_areTagsRight_7 rfl hl (by decide) rfl (fun ls hl => ?_)
  refine fm_loop1 (LV := fun (i : Nat) => [(0, .ref fa), (1, .int (fm_bI (fm_all (i) (fun k => fm_tag1 (fm_RB f) (fm_HF (fm_RB f) 2 + k))))), (2, .int (nI (fm_HF (fm_RB f) 2 + i)))]) (I := fun (i : Nat) => i ≤ fm_WD (fm_RB f) 1) (μ := fun (i : Nat) => fm_WD (fm_RB f) 1 - i) ?_ 0 (Nat.zero_le _) ls (lv_sub hl [2, 1, 0] rfl)
  intro i hI_8 ih_8 ls hl
  have hl : lv_has ls 4 [(0, .ref fa), (1, .int (fm_bI (fm_all (i) (fun k => fm_tag1 (fm_RB f) (fm_HF (fm_RB f) 2 + k))))), (2, .int (nI (fm_HF (fm_RB f) 2 + i)))] := hl
  refine lv_iload_n hx hb d_MO_areTagsRight_8 rfl (lv_at hl 2 rfl) ?_
  refine lv_aload_n hx hb d_MO_areTagsRight_9 rfl (lv_at hl 0 rfl) ?_
  refine lv_iconst (v := nI (3)) hx hb d_MO_areTagsRight_10 (by decide) ?_
  refine fm_cs S (c_MO_half l dC dI fa cB f 3 (by omega)) rfl rfl k_MO_half q_3_172 ⟨Nat.le_of_ble_eq_true rfl, Nat.le_of_ble_eq_true rfl⟩ (hP.sub [0] rfl) (hK.sub [0] rfl) rfl hl.1 rfl (Nat.le_of_ble_eq_true rfl) ⟨Nat.zero_le _, Nat.zero_le _⟩ d_MO_areTagsRight_11 ?_
  have f0_11 := fm_HF_lt (fm_RB_lt f) 3
  refine lv_icmp_gt (tgt := 98) hx hb d_MO_areTagsRight_14 (by decide) (fun c0 => ?_) (fun c0 => ?_)
  · have c_14 : fm_HF (fm_RB f) 3 < fm_HF (fm_RB f) 2 + i := (nI_ltI (a := fm_HF (fm_RB f) 3) (b := fm_HF (fm_RB f) 2 + i) (by omega) (by omega)).mp c0
    refine lv_iload_n hx hb d_MO_areTagsRight_98 rfl (lv_at hl 1 rfl) ?_
    exact W.zret (ty := .boolean) hx hb hr (fm_bI_z _) (fun t ht hW => ⟨_, rfl, by rw [show fm_WD (fm_RB f) 1 = i by omega], ht⟩) (fun q hq => by cases hq) d_MO_areTagsRight_99
  · have c_14 : ¬ (fm_HF (fm_RB f) 3 < fm_HF (fm_RB f) 2 + i) := fun z => c0 ((nI_ltI (a := fm_HF (fm_RB f) 3) (b := fm_HF (fm_RB f) 2 + i) (by omega) (by omega)).mpr z)
    refine lv_aload_n hx hb d_MO_areTagsRight_17 rfl (lv_at hl 0 rfl) ?_
    refine lv_iload_n hx hb d_MO_areTagsRight_18 rfl (lv_at hl 2 rfl) ?_
    refine fm_cs S (c_MO_isThereN l dC dI fa cB f (fm_HF (fm_RB f) 2 + i) (by omega) (hL)) rfl rfl k_MO_isThere q_3_194 ⟨Nat.le_of_ble_eq_true rfl, Nat.le_of_ble_eq_true rfl⟩ (hP.sub [0] rfl) (hK.sub [0] rfl) rfl hl.1 rfl (Nat.le_of_ble_eq_true rfl) ⟨Nat.zero_le _, Nat.zero_le _⟩ d_MO_areTagsRight_19 ?_
    refine lv_if_eq (tgt := 92) hx hb d_MO_areTagsRight_22 (by decide) (fun c0 => ?_) (fun c0 => ?_)
    · have c_22 : (fm_th (fm_RB f) (fm_HF (fm_RB f) 2 + i)) = false := fm_bI_f c0
      have hl : lv_has ls 4 [(0, .ref fa), (1, .int (fm_bI (fm_all (i + 1) (fun k => fm_tag1 (fm_RB f) (fm_HF (fm_RB f) 2 + k))))), (2, .int (nI (fm_HF (fm_RB f) 2 + i)))] := by rw [show ((fm_bI (fm_all (i) (fun k => fm_tag1 (fm_RB f) (fm_HF (fm_RB f) 2 + k)))) : Int32) = (fm_bI (fm_all (i + 1) (fun k => fm_tag1 (fm_RB f) (fm_HF (fm_RB f) 2 + k)))) from fm_st0 (fm_tag1_0 c_22)] at hl; exact hl
      refine lv_iinc (v := nI (fm_HF (fm_RB f) 2 + i + 1)) (lv' := [(2, .int (nI (fm_HF (fm_RB f) 2 + i + 1))), (0, .ref fa), (1, .int (fm_bI (fm_all (i + 1) (fun k => fm_tag1 (fm_RB f) (fm_HF (fm_RB f) 2 + k)))))]) hx hb d_MO_areTagsRight_92 hl (k := 2) rfl (nI_1 _) (by decide) rfl (fun ls hl => ?_)
      refine lv_goto (tgt := 8) hx hb d_MO_areTagsRight_95 (by decide) ?_
      exact ih_8 (i + 1) ls (by omega) (by omega) (lv_sub hl [1, 2, 0] rfl)
    · have c_22 : (fm_th (fm_RB f) (fm_HF (fm_RB f) 2 + i)) = true := fm_bI_t c0
      obtain ⟨hx1, hx2, -⟩ := fm_th_in c_22
      refine lv_aload_n hx hb d_MO_areTagsRight_25 rfl (lv_at hl 0 rfl) ?_
      refine lv_iload_n hx hb d_MO_areTagsRight_26 rfl (lv_at hl 2 rfl) ?_
      refine fm_cs S (c_MO_tag l dC dI fa cB f (fm_HF (fm_RB f) 2 + i) (hL) (by omega) (by omega)) rfl rfl k_MO_tag q_3_197 ⟨Nat.le_of_ble_eq_true rfl, Nat.le_of_ble_eq_true rfl⟩ (hP.sub [0] rfl) (hK.sub [0] rfl) rfl hl.1 rfl (Nat.le_of_ble_eq_true rfl) ⟨Nat.zero_le _, Nat.zero_le _⟩ d_MO_areTagsRight_27 ?_
      have f0_27 := fm_tag_lt (fm_RB f) (fm_HF (fm_RB f) 2 + i)
      refine lv_istore_n (lv' := [(3, .int (nI (fm_tag (fm_RB f) (fm_HF (fm_RB f) 2 + i)))), (0, .ref fa), (1, .int (fm_bI (fm_all (i) (fun k => fm_tag1 (fm_RB f) (fm_HF (fm_RB f) 2 + k))))), (2, .int (nI (fm_HF (fm_RB f) 2 + i)))]) hx hb d_MO_areTagsRight_30 rfl hl (by decide) rfl (fun ls hl => ?_)
      refine lv_iload_n hx hb d_MO_areTagsRight_31 rfl (lv_at hl 2 rfl) ?_
      refine lv_if_eq (tgt := 90) hx hb d_MO_areTagsRight_32 (by decide) (fun c0 => ?_) (fun c0 => ?_)
      · have c_32 : (fm_all (i) (fun k => fm_tag1 (fm_RB f) (fm_HF (fm_RB f) 2 + k))) = false := fm_bI_f c0
        refine lv_iconst (v := nI (0)) hx hb d_MO_areTagsRight_90 (by decide) ?_
        refine fm_tw (z := (fm_bI (fm_all (i + 1) (fun k => fm_tag1 (fm_RB f) (fm_HF (fm_RB f) 2 + k))))) (by first | exact fm_stF1 c_32 | exact fm_stT c_32 (fm_tag1_t (fun h => by omega) (fun h => by omega) (fun h => by first | exact c_83 | omega)) | exact fm_stF2 (fm_tag1_f c_22 (Or.inr (Or.inr ⟨c_75, c_83⟩))) | exact fm_stF2 (fm_tag1_f c_22 (Or.inr (Or.inl ⟨c_56, c_70⟩))) | exact fm_stF2 (fm_tag1_f c_22 (Or.inl ⟨c_37, c_51⟩))) ?_
        refine lv_istore_n (lv' := [(1, .int (fm_bI (fm_all (i + 1) (fun k => fm_tag1 (fm_RB f) (fm_HF (fm_RB f) 2 + k))))), (3, .int (nI (fm_tag (fm_RB f) (fm_HF (fm_RB f) 2 + i)))), (0, .ref fa), (2, .int (nI (fm_HF (fm_RB f) 2 + i)))]) hx hb d_MO_areTagsRight_91 rfl hl (by decide) rfl (fun ls hl => ?_)
        refine lv_iinc (v := nI (fm_HF (fm_RB f) 2 + i + 1)) (lv' := [(2, .int (nI (fm_HF (fm_RB f) 2 + i + 1))), (1, .int (fm_bI (fm_all (i + 1) (fun k => fm_tag1 (fm_RB f) (fm_HF (fm_RB f) 2 + k))))), (3, .int (nI (fm_tag (fm_RB f) (fm_HF (fm_RB f) 2 + i)))), (0, .ref fa)]) hx hb d_MO_areTagsRight_92 hl (k := 3) rfl (nI_1 _) (by decide) rfl (fun ls hl => ?_)
        refine lv_goto (tgt := 8) hx hb d_MO_areTagsRight_95 (by decide) ?_
        exact ih_8 (i + 1) ls (by omega) (by omega) (lv_sub hl [3, 1, 0] rfl)
      · have c_32 : (fm_all (i) (fun k => fm_tag1 (fm_RB f) (fm_HF (fm_RB f) 2 + k))) = true := fm_bI_t c0
        refine lv_iload_n hx hb d_MO_areTagsRight_35 rfl (lv_at hl 0 rfl) ?_
        refine lv_iconst (v := nI (1)) hx hb d_MO_areTagsRight_36 (by decide) ?_
        refine lv_icmp_ne (tgt := 54) hx hb d_MO_areTagsRight_37 (by decide) (fun c0 => ?_) (fun c0 => ?_)
        · have c_37 : ¬ (fm_tag (fm_RB f) (fm_HF (fm_RB f) 2 + i) = 1) := fun z => c0 ((nI_eq (a := fm_tag (fm_RB f) (fm_HF (fm_RB f) 2 + i)) (b := 1) (by omega) (by omega)).mpr z)
          refine lv_iload_n hx hb d_MO_areTagsRight_54 rfl (lv_at hl 0 rfl) ?_
          refine lv_iconst (v := nI (3)) hx hb d_MO_areTagsRight_55 (by decide) ?_
          refine lv_icmp_ne (tgt := 73) hx hb d_MO_areTagsRight_56 (by decide) (fun c0 => ?_) (fun c0 => ?_)
          · have c_56 : ¬ (fm_tag (fm_RB f) (fm_HF (fm_RB f) 2 + i) = 3) := fun z => c0 ((nI_eq (a := fm_tag (fm_RB f) (fm_HF (fm_RB f) 2 + i)) (b := 3) (by omega) (by omega)).mpr z)
            refine lv_iload_n hx hb d_MO_areTagsRight_73 rfl (lv_at hl 0 rfl) ?_
            refine lv_iconst (v := nI (2)) hx hb d_MO_areTagsRight_74 (by decide) ?_
            refine lv_icmp_ne (tgt := 86) hx hb d_MO_areTagsRight_75 (by decide) (fun c0 => ?_) (fun c0 => ?_)
            · have c_75 : ¬ (fm_tag (fm_RB f) (fm_HF (fm_RB f) 2 + i) = 2) := fun z => c0 ((nI_eq (a := fm_tag (fm_RB f) (fm_HF (fm_RB f) 2 + i)) (b := 2) (by omega) (by omega)).mpr z)
              refine lv_iconst (v := nI (1)) hx hb d_MO_areTagsRight_86 (by decide) ?_
              refine lv_goto (tgt := 91) hx hb d_MO_areTagsRight_87 (by decide) ?_
              refine fm_tw (z := (fm_bI (fm_all (i + 1) (fun k => fm_tag1 (fm_RB f) (fm_HF (fm_RB f) 2 + k))))) (by first | exact fm_stF1 c_32 | exact fm_stT c_32 (fm_tag1_t (fun h => by omega) (fun h => by omega) (fun h => by first | exact c_83 | omega)) | exact fm_stF2 (fm_tag1_f c_22 (Or.inr (Or.inr ⟨c_75, c_83⟩))) | exact fm_stF2 (fm_tag1_f c_22 (Or.inr (Or.inl ⟨c_56, c_70⟩))) | exact fm_stF2 (fm_tag1_f c_22 (Or.inl ⟨c_37, c_51⟩))) ?_
              refine lv_istore_n (lv' := [(1, .int (fm_bI (fm_all (i + 1) (fun k => fm_tag1 (fm_RB f) (fm_HF (fm_RB f) 2 + k))))), (3, .int (nI (fm_tag (fm_RB f) (fm_HF (fm_RB f) 2 + i)))), (0, .ref fa), (2, .int (nI (fm_HF (fm_RB f) 2 + i)))]) hx hb d_MO_areTagsRight_91 rfl hl (by decide) rfl (fun ls hl => ?_)
              refine lv_iinc (v := nI (fm_HF (fm_RB f) 2 + i + 1)) (lv' := [(2, .int (nI (fm_HF (fm_RB f) 2 + i + 1))), (1, .int (fm_bI (fm_all (i + 1) (fun k => fm_tag1 (fm_RB f) (fm_HF (fm_RB f) 2 + k))))), (3, .int (nI (fm_tag (fm_RB f) (fm_HF (fm_RB f) 2 + i)))), (0, .ref fa)]) hx hb d_MO_areTagsRight_92 hl (k := 3) rfl (nI_1 _) (by decide) rfl (fun ls hl => ?_)
              refine lv_goto (tgt := 8) hx hb d_MO_areTagsRight_95 (by decide) ?_
              exact ih_8 (i + 1) ls (by omega) (by omega) (lv_sub hl [3, 1, 0] rfl)
            · have c_75 : fm_tag (fm_RB f) (fm_HF (fm_RB f) 2 + i) = 2 := (nI_eq (a := fm_tag (fm_RB f) (fm_HF (fm_RB f) 2 + i)) (b := 2) (by omega) (by omega)).mp c0
              refine lv_aload_n hx hb d_MO_areTagsRight_78 rfl (lv_at hl 1 rfl) ?_
              refine lv_iload_n hx hb d_MO_areTagsRight_79 rfl (lv_at hl 3 rfl) ?_
              refine fm_cs S (c_MO_isLargerRight l dC dI fa cB f (fm_HF (fm_RB f) 2 + i) (hL) (by omega) (by omega)) rfl rfl k_MO_isLargerRight q_3_203 ⟨Nat.le_of_ble_eq_true rfl, Nat.le_of_ble_eq_true rfl⟩ (hP.sub [0] rfl) (hK.sub [0] rfl) rfl hl.1 rfl (Nat.le_of_ble_eq_true rfl) ⟨Nat.zero_le _, Nat.zero_le _⟩ d_MO_areTagsRight_80 ?_
              refine lv_if_eq (tgt := 90) hx hb d_MO_areTagsRight_83 (by decide) (fun c0 => ?_) (fun c0 => ?_)
              · have c_83 : (fm_larger (fm_RB f) (fm_HF (fm_RB f) 2 + i)) = false := fm_bI_f c0
                refine lv_iconst (v := nI (0)) hx hb d_MO_areTagsRight_90 (by decide) ?_
                refine fm_tw (z := (fm_bI (fm_all (i + 1) (fun k => fm_tag1 (fm_RB f) (fm_HF (fm_RB f) 2 + k))))) (by first | exact fm_stF1 c_32 | exact fm_stT c_32 (fm_tag1_t (fun h => by omega) (fun h => by omega) (fun h => by first | exact c_83 | omega)) | exact fm_stF2 (fm_tag1_f c_22 (Or.inr (Or.inr ⟨c_75, c_83⟩))) | exact fm_stF2 (fm_tag1_f c_22 (Or.inr (Or.inl ⟨c_56, c_70⟩))) | exact fm_stF2 (fm_tag1_f c_22 (Or.inl ⟨c_37, c_51⟩))) ?_
                refine lv_istore_n (lv' := [(1, .int (fm_bI (fm_all (i + 1) (fun k => fm_tag1 (fm_RB f) (fm_HF (fm_RB f) 2 + k))))), (3, .int (nI (fm_tag (fm_RB f) (fm_HF (fm_RB f) 2 + i)))), (0, .ref fa), (2, .int (nI (fm_HF (fm_RB f) 2 + i)))]) hx hb d_MO_areTagsRight_91 rfl hl (by decide) rfl (fun ls hl => ?_)
                refine lv_iinc (v := nI (fm_HF (fm_RB f) 2 + i + 1)) (lv' := [(2, .int (nI (fm_HF (fm_RB f) 2 + i + 1))), (1, .int (fm_bI (fm_all (i + 1) (fun k => fm_tag1 (fm_RB f) (fm_HF (fm_RB f) 2 + k))))), (3, .int (nI (fm_tag (fm_RB f) (fm_HF (fm_RB f) 2 + i)))), (0, .ref fa)]) hx hb d_MO_areTagsRight_92 hl (k := 3) rfl (nI_1 _) (by decide) rfl (fun ls hl => ?_)
                refine lv_goto (tgt := 8) hx hb d_MO_areTagsRight_95 (by decide) ?_
                exact ih_8 (i + 1) ls (by omega) (by omega) (lv_sub hl [3, 1, 0] rfl)
              · have c_83 : (fm_larger (fm_RB f) (fm_HF (fm_RB f) 2 + i)) = true := fm_bI_t c0
                refine lv_iconst (v := nI (1)) hx hb d_MO_areTagsRight_86 (by decide) ?_
                refine lv_goto (tgt := 91) hx hb d_MO_areTagsRight_87 (by decide) ?_
                refine fm_tw (z := (fm_bI (fm_all (i + 1) (fun k => fm_tag1 (fm_RB f) (fm_HF (fm_RB f) 2 + k))))) (by first | exact fm_stF1 c_32 | exact fm_stT c_32 (fm_tag1_t (fun h => by omega) (fun h => by omega) (fun h => by first | exact c_83 | omega)) | exact fm_stF2 (fm_tag1_f c_22 (Or.inr (Or.inr ⟨c_75, c_83⟩))) | exact fm_stF2 (fm_tag1_f c_22 (Or.inr (Or.inl ⟨c_56, c_70⟩))) | exact fm_stF2 (fm_tag1_f c_22 (Or.inl ⟨c_37, c_51⟩))) ?_
                refine lv_istore_n (lv' := [(1, .int (fm_bI (fm_all (i + 1) (fun k => fm_tag1 (fm_RB f) (fm_HF (fm_RB f) 2 + k))))), (3, .int (nI (fm_tag (fm_RB f) (fm_HF (fm_RB f) 2 + i)))), (0, .ref fa), (2, .int (nI (fm_HF (fm_RB f) 2 + i)))]) hx hb d_MO_areTagsRight_91 rfl hl (by decide) rfl (fun ls hl => ?_)
                refine lv_iinc (v := nI (fm_HF (fm_RB f) 2 + i + 1)) (lv' := [(2, .int (nI (fm_HF (fm_RB f) 2 + i + 1))), (1, .int (fm_bI (fm_all (i + 1) (fun k => fm_tag1 (fm_RB f) (fm_HF (fm_RB f) 2 + k))))), (3, .int (nI (fm_tag (fm_RB f) (fm_HF (fm_RB f) 2 + i)))), (0, .ref fa)]) hx hb d_MO_areTagsRight_92 hl (k := 3) rfl (nI_1 _) (by decide) rfl (fun ls hl => ?_)
                refine lv_goto (tgt := 8) hx hb d_MO_areTagsRight_95 (by decide) ?_
                exact ih_8 (i + 1) ls (by omega) (by omega) (lv_sub hl [3, 1, 0] rfl)
          · have c_56 : fm_tag (fm_RB f) (fm_HF (fm_RB f) 2 + i) = 3 := (nI_eq (a := fm_tag (fm_RB f) (fm_HF (fm_RB f) 2 + i)) (b := 3) (by omega) (by omega)).mp c0
            refine lv_aload_n hx hb d_MO_areTagsRight_59 rfl (lv_at hl 1 rfl) ?_
            refine lv_iload_n hx hb d_MO_areTagsRight_60 rfl (lv_at hl 3 rfl) ?_
            refine fm_cs S (c_MO_rest l dC dI fa cB f (fm_HF (fm_RB f) 2 + i) (hL) (by omega) (by omega)) rfl rfl k_MO_rest q_3_200 ⟨Nat.le_of_ble_eq_true rfl, Nat.le_of_ble_eq_true rfl⟩ (hP.sub [0] rfl) (hK.sub [0] rfl) rfl hl.1 rfl (Nat.le_of_ble_eq_true rfl) ⟨Nat.zero_le _, Nat.zero_le _⟩ d_MO_areTagsRight_61 ?_
            have f0_61 := fm_rest_lt (fm_RB_lt f) (fm_HF (fm_RB f) 2 + i)
            refine lv_aload_n hx hb d_MO_areTagsRight_64 rfl (lv_at hl 1 rfl) ?_
            refine lv_bipush (v := nI (8)) hx hb d_MO_areTagsRight_65 (by decide) ?_
            refine fm_cs S (c_MO_words l dC dI fa cB f 8 (by omega) (fun _ => hq)) rfl rfl k_MO_words q_3_175 ⟨Nat.le_of_ble_eq_true rfl, Nat.le_of_ble_eq_true rfl⟩ (hP.sub [0] rfl) (hK.sub [0] rfl) rfl hl.1 rfl (Nat.le_of_ble_eq_true rfl) ⟨Nat.zero_le _, Nat.zero_le _⟩ d_MO_areTagsRight_67 ?_
            have f0_67 := fm_WD_le (fm_RB_lt f) 8
            refine lv_icmp_ge (tgt := 90) hx hb d_MO_areTagsRight_70 (by decide) (fun c0 => ?_) (fun c0 => ?_)
            · have c_70 : fm_WD (fm_RB f) 8 ≤ fm_rest (fm_RB f) (fm_HF (fm_RB f) 2 + i) := (nI_leI (a := fm_WD (fm_RB f) 8) (b := fm_rest (fm_RB f) (fm_HF (fm_RB f) 2 + i)) (by omega) (by omega)).mp c0
              refine lv_iconst (v := nI (0)) hx hb d_MO_areTagsRight_90 (by decide) ?_
              refine fm_tw (z := (fm_bI (fm_all (i + 1) (fun k => fm_tag1 (fm_RB f) (fm_HF (fm_RB f) 2 + k))))) (by first | exact fm_stF1 c_32 | exact fm_stT c_32 (fm_tag1_t (fun h => by omega) (fun h => by omega) (fun h => by first | exact c_83 | omega)) | exact fm_stF2 (fm_tag1_f c_22 (Or.inr (Or.inr ⟨c_75, c_83⟩))) | exact fm_stF2 (fm_tag1_f c_22 (Or.inr (Or.inl ⟨c_56, c_70⟩))) | exact fm_stF2 (fm_tag1_f c_22 (Or.inl ⟨c_37, c_51⟩))) ?_
              refine lv_istore_n (lv' := [(1, .int (fm_bI (fm_all (i + 1) (fun k => fm_tag1 (fm_RB f) (fm_HF (fm_RB f) 2 + k))))), (3, .int (nI (fm_tag (fm_RB f) (fm_HF (fm_RB f) 2 + i)))), (0, .ref fa), (2, .int (nI (fm_HF (fm_RB f) 2 + i)))]) hx hb d_MO_areTagsRight_91 rfl hl (by decide) rfl (fun ls hl => ?_)
              refine lv_iinc (v := nI (fm_HF (fm_RB f) 2 + i + 1)) (lv' := [(2, .int (nI (fm_HF (fm_RB f) 2 + i + 1))), (1, .int (fm_bI (fm_all (i + 1) (fun k => fm_tag1 (fm_RB f) (fm_HF (fm_RB f) 2 + k))))), (3, .int (nI (fm_tag (fm_RB f) (fm_HF (fm_RB f) 2 + i)))), (0, .ref fa)]) hx hb d_MO_areTagsRight_92 hl (k := 3) rfl (nI_1 _) (by decide) rfl (fun ls hl => ?_)
              refine lv_goto (tgt := 8) hx hb d_MO_areTagsRight_95 (by decide) ?_
              exact ih_8 (i + 1) ls (by omega) (by omega) (lv_sub hl [3, 1, 0] rfl)
            · have c_70 : ¬ (fm_WD (fm_RB f) 8 ≤ fm_rest (fm_RB f) (fm_HF (fm_RB f) 2 + i)) := fun z => c0 ((nI_leI (a := fm_WD (fm_RB f) 8) (b := fm_rest (fm_RB f) (fm_HF (fm_RB f) 2 + i)) (by omega) (by omega)).mpr z)
              refine lv_iload_n hx hb d_MO_areTagsRight_73 rfl (lv_at hl 0 rfl) ?_
              refine lv_iconst (v := nI (2)) hx hb d_MO_areTagsRight_74 (by decide) ?_
              refine lv_icmp_ne (tgt := 86) hx hb d_MO_areTagsRight_75 (by decide) (fun c0 => ?_) (fun c0 => ?_)
              · have c_75 : ¬ (fm_tag (fm_RB f) (fm_HF (fm_RB f) 2 + i) = 2) := fun z => c0 ((nI_eq (a := fm_tag (fm_RB f) (fm_HF (fm_RB f) 2 + i)) (b := 2) (by omega) (by omega)).mpr z)
                refine lv_iconst (v := nI (1)) hx hb d_MO_areTagsRight_86 (by decide) ?_
                refine lv_goto (tgt := 91) hx hb d_MO_areTagsRight_87 (by decide) ?_
                refine fm_tw (z := (fm_bI (fm_all (i + 1) (fun k => fm_tag1 (fm_RB f) (fm_HF (fm_RB f) 2 + k))))) (by first | exact fm_stF1 c_32 | exact fm_stT c_32 (fm_tag1_t (fun h => by omega) (fun h => by omega) (fun h => by first | exact c_83 | omega)) | exact fm_stF2 (fm_tag1_f c_22 (Or.inr (Or.inr ⟨c_75, c_83⟩))) | exact fm_stF2 (fm_tag1_f c_22 (Or.inr (Or.inl ⟨c_56, c_70⟩))) | exact fm_stF2 (fm_tag1_f c_22 (Or.inl ⟨c_37, c_51⟩))) ?_
                refine lv_istore_n (lv' := [(1, .int (fm_bI (fm_all (i + 1) (fun k => fm_tag1 (fm_RB f) (fm_HF (fm_RB f) 2 + k))))), (3, .int (nI (fm_tag (fm_RB f) (fm_HF (fm_RB f) 2 + i)))), (0, .ref fa), (2, .int (nI (fm_HF (fm_RB f) 2 + i)))]) hx hb d_MO_areTagsRight_91 rfl hl (by decide) rfl (fun ls hl => ?_)
                refine lv_iinc (v := nI (fm_HF (fm_RB f) 2 + i + 1)) (lv' := [(2, .int (nI (fm_HF (fm_RB f) 2 + i + 1))), (1, .int (fm_bI (fm_all (i + 1) (fun k => fm_tag1 (fm_RB f) (fm_HF (fm_RB f) 2 + k))))), (3, .int (nI (fm_tag (fm_RB f) (fm_HF (fm_RB f) 2 + i)))), (0, .ref fa)]) hx hb d_MO_areTagsRight_92 hl (k := 3) rfl (nI_1 _) (by decide) rfl (fun ls hl => ?_)
                refine lv_goto (tgt := 8) hx hb d_MO_areTagsRight_95 (by decide) ?_
                exact ih_8 (i + 1) ls (by omega) (by omega) (lv_sub hl [3, 1, 0] rfl)
              · have c_75 : fm_tag (fm_RB f) (fm_HF (fm_RB f) 2 + i) = 2 := (nI_eq (a := fm_tag (fm_RB f) (fm_HF (fm_RB f) 2 + i)) (b := 2) (by omega) (by omega)).mp c0
                refine lv_aload_n hx hb d_MO_areTagsRight_78 rfl (lv_at hl 1 rfl) ?_
                refine lv_iload_n hx hb d_MO_areTagsRight_79 rfl (lv_at hl 3 rfl) ?_
                refine fm_cs S (c_MO_isLargerRight l dC dI fa cB f (fm_HF (fm_RB f) 2 + i) (hL) (by omega) (by omega)) rfl rfl k_MO_isLargerRight q_3_203 ⟨Nat.le_of_ble_eq_true rfl, Nat.le_of_ble_eq_true rfl⟩ (hP.sub [0] rfl) (hK.sub [0] rfl) rfl hl.1 rfl (Nat.le_of_ble_eq_true rfl) ⟨Nat.zero_le _, Nat.zero_le _⟩ d_MO_areTagsRight_80 ?_
                refine lv_if_eq (tgt := 90) hx hb d_MO_areTagsRight_83 (by decide) (fun c0 => ?_) (fun c0 => ?_)
                · have c_83 : (fm_larger (fm_RB f) (fm_HF (fm_RB f) 2 + i)) = false := fm_bI_f c0
                  refine lv_iconst (v := nI (0)) hx hb d_MO_areTagsRight_90 (by decide) ?_
                  refine fm_tw (z := (fm_bI (fm_all (i + 1) (fun k => fm_tag1 (fm_RB f) (fm_HF (fm_RB f) 2 + k))))) (by first | exact fm_stF1 c_32 | exact fm_stT c_32 (fm_tag1_t (fun h => by omega) (fun h => by omega) (fun h => by first | exact c_83 | omega)) | exact fm_stF2 (fm_tag1_f c_22 (Or.inr (Or.inr ⟨c_75, c_83⟩))) | exact fm_stF2 (fm_tag1_f c_22 (Or.inr (Or.inl ⟨c_56, c_70⟩))) | exact fm_stF2 (fm_tag1_f c_22 (Or.inl ⟨c_37, c_51⟩))) ?_
                  refine lv_istore_n (lv' := [(1, .int (fm_bI (fm_all (i + 1) (fun k => fm_tag1 (fm_RB f) (fm_HF (fm_RB f) 2 + k))))), (3, .int (nI (fm_tag (fm_RB f) (fm_HF (fm_RB f) 2 + i)))), (0, .ref fa), (2, .int (nI (fm_HF (fm_RB f) 2 + i)))]) hx hb d_MO_areTagsRight_91 rfl hl (by decide) rfl (fun ls hl => ?_)
                  refine lv_iinc (v := nI (fm_HF (fm_RB f) 2 + i + 1)) (lv' := [(2, .int (nI (fm_HF (fm_RB f) 2 + i + 1))), (1, .int (fm_bI (fm_all (i + 1) (fun k => fm_tag1 (fm_RB f) (fm_HF (fm_RB f) 2 + k))))), (3, .int (nI (fm_tag (fm_RB f) (fm_HF (fm_RB f) 2 + i)))), (0, .ref fa)]) hx hb d_MO_areTagsRight_92 hl (k := 3) rfl (nI_1 _) (by decide) rfl (fun ls hl => ?_)
                  refine lv_goto (tgt := 8) hx hb d_MO_areTagsRight_95 (by decide) ?_
                  exact ih_8 (i + 1) ls (by omega) (by omega) (lv_sub hl [3, 1, 0] rfl)
                · have c_83 : (fm_larger (fm_RB f) (fm_HF (fm_RB f) 2 + i)) = true := fm_bI_t c0
                  refine lv_iconst (v := nI (1)) hx hb d_MO_areTagsRight_86 (by decide) ?_
                  refine lv_goto (tgt := 91) hx hb d_MO_areTagsRight_87 (by decide) ?_
                  refine fm_tw (z := (fm_bI (fm_all (i + 1) (fun k => fm_tag1 (fm_RB f) (fm_HF (fm_RB f) 2 + k))))) (by first | exact fm_stF1 c_32 | exact fm_stT c_32 (fm_tag1_t (fun h => by omega) (fun h => by omega) (fun h => by first | exact c_83 | omega)) | exact fm_stF2 (fm_tag1_f c_22 (Or.inr (Or.inr ⟨c_75, c_83⟩))) | exact fm_stF2 (fm_tag1_f c_22 (Or.inr (Or.inl ⟨c_56, c_70⟩))) | exact fm_stF2 (fm_tag1_f c_22 (Or.inl ⟨c_37, c_51⟩))) ?_
                  refine lv_istore_n (lv' := [(1, .int (fm_bI (fm_all (i + 1) (fun k => fm_tag1 (fm_RB f) (fm_HF (fm_RB f) 2 + k))))), (3, .int (nI (fm_tag (fm_RB f) (fm_HF (fm_RB f) 2 + i)))), (0, .ref fa), (2, .int (nI (fm_HF (fm_RB f) 2 + i)))]) hx hb d_MO_areTagsRight_91 rfl hl (by decide) rfl (fun ls hl => ?_)
                  refine lv_iinc (v := nI (fm_HF (fm_RB f) 2 + i + 1)) (lv' := [(2, .int (nI (fm_HF (fm_RB f) 2 + i + 1))), (1, .int (fm_bI (fm_all (i + 1) (fun k => fm_tag1 (fm_RB f) (fm_HF (fm_RB f) 2 + k))))), (3, .int (nI (fm_tag (fm_RB f) (fm_HF (fm_RB f) 2 + i)))), (0, .ref fa)]) hx hb d_MO_areTagsRight_92 hl (k := 3) rfl (nI_1 _) (by decide) rfl (fun ls hl => ?_)
                  refine lv_goto (tgt := 8) hx hb d_MO_areTagsRight_95 (by decide) ?_
                  exact ih_8 (i + 1) ls (by omega) (by omega) (lv_sub hl [3, 1, 0] rfl)
        · have c_37 : fm_tag (fm_RB f) (fm_HF (fm_RB f) 2 + i) = 1 := (nI_eq (a := fm_tag (fm_RB f) (fm_HF (fm_RB f) 2 + i)) (b := 1) (by omega) (by omega)).mp c0
          refine lv_aload_n hx hb d_MO_areTagsRight_40 rfl (lv_at hl 1 rfl) ?_
          refine lv_iload_n hx hb d_MO_areTagsRight_41 rfl (lv_at hl 3 rfl) ?_
          refine fm_cs S (c_MO_rest l dC dI fa cB f (fm_HF (fm_RB f) 2 + i) (hL) (by omega) (by omega)) rfl rfl k_MO_rest q_3_200 ⟨Nat.le_of_ble_eq_true rfl, Nat.le_of_ble_eq_true rfl⟩ (hP.sub [0] rfl) (hK.sub [0] rfl) rfl hl.1 rfl (Nat.le_of_ble_eq_true rfl) ⟨Nat.zero_le _, Nat.zero_le _⟩ d_MO_areTagsRight_42 ?_
          have f0_42 := fm_rest_lt (fm_RB_lt f) (fm_HF (fm_RB f) 2 + i)
          refine lv_aload_n hx hb d_MO_areTagsRight_45 rfl (lv_at hl 1 rfl) ?_
          refine lv_bipush (v := nI (6)) hx hb d_MO_areTagsRight_46 (by decide) ?_
          refine fm_cs S (c_MO_words l dC dI fa cB f 6 (by omega) (fun _ => hq)) rfl rfl k_MO_words q_3_175 ⟨Nat.le_of_ble_eq_true rfl, Nat.le_of_ble_eq_true rfl⟩ (hP.sub [0] rfl) (hK.sub [0] rfl) rfl hl.1 rfl (Nat.le_of_ble_eq_true rfl) ⟨Nat.zero_le _, Nat.zero_le _⟩ d_MO_areTagsRight_48 ?_
          have f0_48 := fm_WD_le (fm_RB_lt f) 6
          refine lv_icmp_ge (tgt := 90) hx hb d_MO_areTagsRight_51 (by decide) (fun c0 => ?_) (fun c0 => ?_)
          · have c_51 : fm_WD (fm_RB f) 6 ≤ fm_rest (fm_RB f) (fm_HF (fm_RB f) 2 + i) := (nI_leI (a := fm_WD (fm_RB f) 6) (b := fm_rest (fm_RB f) (fm_HF (fm_RB f) 2 + i)) (by omega) (by omega)).mp c0
            refine lv_iconst (v := nI (0)) hx hb d_MO_areTagsRight_90 (by decide) ?_
            refine fm_tw (z := (fm_bI (fm_all (i + 1) (fun k => fm_tag1 (fm_RB f) (fm_HF (fm_RB f) 2 + k))))) (by first | exact fm_stF1 c_32 | exact fm_stT c_32 (fm_tag1_t (fun h => by omega) (fun h => by omega) (fun h => by first | exact c_83 | omega)) | exact fm_stF2 (fm_tag1_f c_22 (Or.inr (Or.inr ⟨c_75, c_83⟩))) | exact fm_stF2 (fm_tag1_f c_22 (Or.inr (Or.inl ⟨c_56, c_70⟩))) | exact fm_stF2 (fm_tag1_f c_22 (Or.inl ⟨c_37, c_51⟩))) ?_
            refine lv_istore_n (lv' := [(1, .int (fm_bI (fm_all (i + 1) (fun k => fm_tag1 (fm_RB f) (fm_HF (fm_RB f) 2 + k))))), (3, .int (nI (fm_tag (fm_RB f) (fm_HF (fm_RB f) 2 + i)))), (0, .ref fa), (2, .int (nI (fm_HF (fm_RB f) 2 + i)))]) hx hb d_MO_areTagsRight_91 rfl hl (by decide) rfl (fun ls hl => ?_)
            refine lv_iinc (v := nI (fm_HF (fm_RB f) 2 + i + 1)) (lv' := [(2, .int (nI (fm_HF (fm_RB f) 2 + i + 1))), (1, .int (fm_bI (fm_all (i + 1) (fun k => fm_tag1 (fm_RB f) (fm_HF (fm_RB f) 2 + k))))), (3, .int (nI (fm_tag (fm_RB f) (fm_HF (fm_RB f) 2 + i)))), (0, .ref fa)]) hx hb d_MO_areTagsRight_92 hl (k := 3) rfl (nI_1 _) (by decide) rfl (fun ls hl => ?_)
            refine lv_goto (tgt := 8) hx hb d_MO_areTagsRight_95 (by decide) ?_
            exact ih_8 (i + 1) ls (by omega) (by omega) (lv_sub hl [3, 1, 0] rfl)
          · have c_51 : ¬ (fm_WD (fm_RB f) 6 ≤ fm_rest (fm_RB f) (fm_HF (fm_RB f) 2 + i)) := fun z => c0 ((nI_leI (a := fm_WD (fm_RB f) 6) (b := fm_rest (fm_RB f) (fm_HF (fm_RB f) 2 + i)) (by omega) (by omega)).mpr z)
            refine lv_iload_n hx hb d_MO_areTagsRight_54 rfl (lv_at hl 0 rfl) ?_
            refine lv_iconst (v := nI (3)) hx hb d_MO_areTagsRight_55 (by decide) ?_
            refine lv_icmp_ne (tgt := 73) hx hb d_MO_areTagsRight_56 (by decide) (fun c0 => ?_) (fun c0 => ?_)
            · have c_56 : ¬ (fm_tag (fm_RB f) (fm_HF (fm_RB f) 2 + i) = 3) := fun z => c0 ((nI_eq (a := fm_tag (fm_RB f) (fm_HF (fm_RB f) 2 + i)) (b := 3) (by omega) (by omega)).mpr z)
              refine lv_iload_n hx hb d_MO_areTagsRight_73 rfl (lv_at hl 0 rfl) ?_
              refine lv_iconst (v := nI (2)) hx hb d_MO_areTagsRight_74 (by decide) ?_
              refine lv_icmp_ne (tgt := 86) hx hb d_MO_areTagsRight_75 (by decide) (fun c0 => ?_) (fun c0 => ?_)
              · have c_75 : ¬ (fm_tag (fm_RB f) (fm_HF (fm_RB f) 2 + i) = 2) := fun z => c0 ((nI_eq (a := fm_tag (fm_RB f) (fm_HF (fm_RB f) 2 + i)) (b := 2) (by omega) (by omega)).mpr z)
                refine lv_iconst (v := nI (1)) hx hb d_MO_areTagsRight_86 (by decide) ?_
                refine lv_goto (tgt := 91) hx hb d_MO_areTagsRight_87 (by decide) ?_
                refine fm_tw (z := (fm_bI (fm_all (i + 1) (fun k => fm_tag1 (fm_RB f) (fm_HF (fm_RB f) 2 + k))))) (by first | exact fm_stF1 c_32 | exact fm_stT c_32 (fm_tag1_t (fun h => by omega) (fun h => by omega) (fun h => by first | exact c_83 | omega)) | exact fm_stF2 (fm_tag1_f c_22 (Or.inr (Or.inr ⟨c_75, c_83⟩))) | exact fm_stF2 (fm_tag1_f c_22 (Or.inr (Or.inl ⟨c_56, c_70⟩))) | exact fm_stF2 (fm_tag1_f c_22 (Or.inl ⟨c_37, c_51⟩))) ?_
                refine lv_istore_n (lv' := [(1, .int (fm_bI (fm_all (i + 1) (fun k => fm_tag1 (fm_RB f) (fm_HF (fm_RB f) 2 + k))))), (3, .int (nI (fm_tag (fm_RB f) (fm_HF (fm_RB f) 2 + i)))), (0, .ref fa), (2, .int (nI (fm_HF (fm_RB f) 2 + i)))]) hx hb d_MO_areTagsRight_91 rfl hl (by decide) rfl (fun ls hl => ?_)
                refine lv_iinc (v := nI (fm_HF (fm_RB f) 2 + i + 1)) (lv' := [(2, .int (nI (fm_HF (fm_RB f) 2 + i + 1))), (1, .int (fm_bI (fm_all (i + 1) (fun k => fm_tag1 (fm_RB f) (fm_HF (fm_RB f) 2 + k))))), (3, .int (nI (fm_tag (fm_RB f) (fm_HF (fm_RB f) 2 + i)))), (0, .ref fa)]) hx hb d_MO_areTagsRight_92 hl (k := 3) rfl (nI_1 _) (by decide) rfl (fun ls hl => ?_)
                refine lv_goto (tgt := 8) hx hb d_MO_areTagsRight_95 (by decide) ?_
                exact ih_8 (i + 1) ls (by omega) (by omega) (lv_sub hl [3, 1, 0] rfl)
              · have c_75 : fm_tag (fm_RB f) (fm_HF (fm_RB f) 2 + i) = 2 := (nI_eq (a := fm_tag (fm_RB f) (fm_HF (fm_RB f) 2 + i)) (b := 2) (by omega) (by omega)).mp c0
                refine lv_aload_n hx hb d_MO_areTagsRight_78 rfl (lv_at hl 1 rfl) ?_
                refine lv_iload_n hx hb d_MO_areTagsRight_79 rfl (lv_at hl 3 rfl) ?_
                refine fm_cs S (c_MO_isLargerRight l dC dI fa cB f (fm_HF (fm_RB f) 2 + i) (hL) (by omega) (by omega)) rfl rfl k_MO_isLargerRight q_3_203 ⟨Nat.le_of_ble_eq_true rfl, Nat.le_of_ble_eq_true rfl⟩ (hP.sub [0] rfl) (hK.sub [0] rfl) rfl hl.1 rfl (Nat.le_of_ble_eq_true rfl) ⟨Nat.zero_le _, Nat.zero_le _⟩ d_MO_areTagsRight_80 ?_
                refine lv_if_eq (tgt := 90) hx hb d_MO_areTagsRight_83 (by decide) (fun c0 => ?_) (fun c0 => ?_)
                · have c_83 : (fm_larger (fm_RB f) (fm_HF (fm_RB f) 2 + i)) = false := fm_bI_f c0
                  refine lv_iconst (v := nI (0)) hx hb d_MO_areTagsRight_90 (by decide) ?_
                  refine fm_tw (z := (fm_bI (fm_all (i + 1) (fun k => fm_tag1 (fm_RB f) (fm_HF (fm_RB f) 2 + k))))) (by first | exact fm_stF1 c_32 | exact fm_stT c_32 (fm_tag1_t (fun h => by omega) (fun h => by omega) (fun h => by first | exact c_83 | omega)) | exact fm_stF2 (fm_tag1_f c_22 (Or.inr (Or.inr ⟨c_75, c_83⟩))) | exact fm_stF2 (fm_tag1_f c_22 (Or.inr (Or.inl ⟨c_56, c_70⟩))) | exact fm_stF2 (fm_tag1_f c_22 (Or.inl ⟨c_37, c_51⟩))) ?_
                  refine lv_istore_n (lv' := [(1, .int (fm_bI (fm_all (i + 1) (fun k => fm_tag1 (fm_RB f) (fm_HF (fm_RB f) 2 + k))))), (3, .int (nI (fm_tag (fm_RB f) (fm_HF (fm_RB f) 2 + i)))), (0, .ref fa), (2, .int (nI (fm_HF (fm_RB f) 2 + i)))]) hx hb d_MO_areTagsRight_91 rfl hl (by decide) rfl (fun ls hl => ?_)
                  refine lv_iinc (v := nI (fm_HF (fm_RB f) 2 + i + 1)) (lv' := [(2, .int (nI (fm_HF (fm_RB f) 2 + i + 1))), (1, .int (fm_bI (fm_all (i + 1) (fun k => fm_tag1 (fm_RB f) (fm_HF (fm_RB f) 2 + k))))), (3, .int (nI (fm_tag (fm_RB f) (fm_HF (fm_RB f) 2 + i)))), (0, .ref fa)]) hx hb d_MO_areTagsRight_92 hl (k := 3) rfl (nI_1 _) (by decide) rfl (fun ls hl => ?_)
                  refine lv_goto (tgt := 8) hx hb d_MO_areTagsRight_95 (by decide) ?_
                  exact ih_8 (i + 1) ls (by omega) (by omega) (lv_sub hl [3, 1, 0] rfl)
                · have c_83 : (fm_larger (fm_RB f) (fm_HF (fm_RB f) 2 + i)) = true := fm_bI_t c0
                  refine lv_iconst (v := nI (1)) hx hb d_MO_areTagsRight_86 (by decide) ?_
                  refine lv_goto (tgt := 91) hx hb d_MO_areTagsRight_87 (by decide) ?_
                  refine fm_tw (z := (fm_bI (fm_all (i + 1) (fun k => fm_tag1 (fm_RB f) (fm_HF (fm_RB f) 2 + k))))) (by first | exact fm_stF1 c_32 | exact fm_stT c_32 (fm_tag1_t (fun h => by omega) (fun h => by omega) (fun h => by first | exact c_83 | omega)) | exact fm_stF2 (fm_tag1_f c_22 (Or.inr (Or.inr ⟨c_75, c_83⟩))) | exact fm_stF2 (fm_tag1_f c_22 (Or.inr (Or.inl ⟨c_56, c_70⟩))) | exact fm_stF2 (fm_tag1_f c_22 (Or.inl ⟨c_37, c_51⟩))) ?_
                  refine lv_istore_n (lv' := [(1, .int (fm_bI (fm_all (i + 1) (fun k => fm_tag1 (fm_RB f) (fm_HF (fm_RB f) 2 + k))))), (3, .int (nI (fm_tag (fm_RB f) (fm_HF (fm_RB f) 2 + i)))), (0, .ref fa), (2, .int (nI (fm_HF (fm_RB f) 2 + i)))]) hx hb d_MO_areTagsRight_91 rfl hl (by decide) rfl (fun ls hl => ?_)
                  refine lv_iinc (v := nI (fm_HF (fm_RB f) 2 + i + 1)) (lv' := [(2, .int (nI (fm_HF (fm_RB f) 2 + i + 1))), (1, .int (fm_bI (fm_all (i + 1) (fun k => fm_tag1 (fm_RB f) (fm_HF (fm_RB f) 2 + k))))), (3, .int (nI (fm_tag (fm_RB f) (fm_HF (fm_RB f) 2 + i)))), (0, .ref fa)]) hx hb d_MO_areTagsRight_92 hl (k := 3) rfl (nI_1 _) (by decide) rfl (fun ls hl => ?_)
                  refine lv_goto (tgt := 8) hx hb d_MO_areTagsRight_95 (by decide) ?_
                  exact ih_8 (i + 1) ls (by omega) (by omega) (lv_sub hl [3, 1, 0] rfl)
            · have c_56 : fm_tag (fm_RB f) (fm_HF (fm_RB f) 2 + i) = 3 := (nI_eq (a := fm_tag (fm_RB f) (fm_HF (fm_RB f) 2 + i)) (b := 3) (by omega) (by omega)).mp c0
              refine lv_aload_n hx hb d_MO_areTagsRight_59 rfl (lv_at hl 1 rfl) ?_
              refine lv_iload_n hx hb d_MO_areTagsRight_60 rfl (lv_at hl 3 rfl) ?_
              refine fm_cs S (c_MO_rest l dC dI fa cB f (fm_HF (fm_RB f) 2 + i) (hL) (by omega) (by omega)) rfl rfl k_MO_rest q_3_200 ⟨Nat.le_of_ble_eq_true rfl, Nat.le_of_ble_eq_true rfl⟩ (hP.sub [0] rfl) (hK.sub [0] rfl) rfl hl.1 rfl (Nat.le_of_ble_eq_true rfl) ⟨Nat.zero_le _, Nat.zero_le _⟩ d_MO_areTagsRight_61 ?_
              have f0_61 := fm_rest_lt (fm_RB_lt f) (fm_HF (fm_RB f) 2 + i)
              refine lv_aload_n hx hb d_MO_areTagsRight_64 rfl (lv_at hl 1 rfl) ?_
              refine lv_bipush (v := nI (8)) hx hb d_MO_areTagsRight_65 (by decide) ?_
              refine fm_cs S (c_MO_words l dC dI fa cB f 8 (by omega) (fun _ => hq)) rfl rfl k_MO_words q_3_175 ⟨Nat.le_of_ble_eq_true rfl, Nat.le_of_ble_eq_true rfl⟩ (hP.sub [0] rfl) (hK.sub [0] rfl) rfl hl.1 rfl (Nat.le_of_ble_eq_true rfl) ⟨Nat.zero_le _, Nat.zero_le _⟩ d_MO_areTagsRight_67 ?_
              have f0_67 := fm_WD_le (fm_RB_lt f) 8
              refine lv_icmp_ge (tgt := 90) hx hb d_MO_areTagsRight_70 (by decide) (fun c0 => ?_) (fun c0 => ?_)
              · have c_70 : fm_WD (fm_RB f) 8 ≤ fm_rest (fm_RB f) (fm_HF (fm_RB f) 2 + i) := (nI_leI (a := fm_WD (fm_RB f) 8) (b := fm_rest (fm_RB f) (fm_HF (fm_RB f) 2 + i)) (by omega) (by omega)).mp c0
                refine lv_iconst (v := nI (0)) hx hb d_MO_areTagsRight_90 (by decide) ?_
                refine fm_tw (z := (fm_bI (fm_all (i + 1) (fun k => fm_tag1 (fm_RB f) (fm_HF (fm_RB f) 2 + k))))) (by first | exact fm_stF1 c_32 | exact fm_stT c_32 (fm_tag1_t (fun h => by omega) (fun h => by omega) (fun h => by first | exact c_83 | omega)) | exact fm_stF2 (fm_tag1_f c_22 (Or.inr (Or.inr ⟨c_75, c_83⟩))) | exact fm_stF2 (fm_tag1_f c_22 (Or.inr (Or.inl ⟨c_56, c_70⟩))) | exact fm_stF2 (fm_tag1_f c_22 (Or.inl ⟨c_37, c_51⟩))) ?_
                refine lv_istore_n (lv' := [(1, .int (fm_bI (fm_all (i + 1) (fun k => fm_tag1 (fm_RB f) (fm_HF (fm_RB f) 2 + k))))), (3, .int (nI (fm_tag (fm_RB f) (fm_HF (fm_RB f) 2 + i)))), (0, .ref fa), (2, .int (nI (fm_HF (fm_RB f) 2 + i)))]) hx hb d_MO_areTagsRight_91 rfl hl (by decide) rfl (fun ls hl => ?_)
                refine lv_iinc (v := nI (fm_HF (fm_RB f) 2 + i + 1)) (lv' := [(2, .int (nI (fm_HF (fm_RB f) 2 + i + 1))), (1, .int (fm_bI (fm_all (i + 1) (fun k => fm_tag1 (fm_RB f) (fm_HF (fm_RB f) 2 + k))))), (3, .int (nI (fm_tag (fm_RB f) (fm_HF (fm_RB f) 2 + i)))), (0, .ref fa)]) hx hb d_MO_areTagsRight_92 hl (k := 3) rfl (nI_1 _) (by decide) rfl (fun ls hl => ?_)
                refine lv_goto (tgt := 8) hx hb d_MO_areTagsRight_95 (by decide) ?_
                exact ih_8 (i + 1) ls (by omega) (by omega) (lv_sub hl [3, 1, 0] rfl)
              · have c_70 : ¬ (fm_WD (fm_RB f) 8 ≤ fm_rest (fm_RB f) (fm_HF (fm_RB f) 2 + i)) := fun z => c0 ((nI_leI (a := fm_WD (fm_RB f) 8) (b := fm_rest (fm_RB f) (fm_HF (fm_RB f) 2 + i)) (by omega) (by omega)).mpr z)
                refine lv_iload_n hx hb d_MO_areTagsRight_73 rfl (lv_at hl 0 rfl) ?_
                refine lv_iconst (v := nI (2)) hx hb d_MO_areTagsRight_74 (by decide) ?_
                refine lv_icmp_ne (tgt := 86) hx hb d_MO_areTagsRight_75 (by decide) (fun c0 => ?_) (fun c0 => ?_)
                · have c_75 : ¬ (fm_tag (fm_RB f) (fm_HF (fm_RB f) 2 + i) = 2) := fun z => c0 ((nI_eq (a := fm_tag (fm_RB f) (fm_HF (fm_RB f) 2 + i)) (b := 2) (by omega) (by omega)).mpr z)
                  refine lv_iconst (v := nI (1)) hx hb d_MO_areTagsRight_86 (by decide) ?_
                  refine lv_goto (tgt := 91) hx hb d_MO_areTagsRight_87 (by decide) ?_
                  refine fm_tw (z := (fm_bI (fm_all (i + 1) (fun k => fm_tag1 (fm_RB f) (fm_HF (fm_RB f) 2 + k))))) (by first | exact fm_stF1 c_32 | exact fm_stT c_32 (fm_tag1_t (fun h => by omega) (fun h => by omega) (fun h => by first | exact c_83 | omega)) | exact fm_stF2 (fm_tag1_f c_22 (Or.inr (Or.inr ⟨c_75, c_83⟩))) | exact fm_stF2 (fm_tag1_f c_22 (Or.inr (Or.inl ⟨c_56, c_70⟩))) | exact fm_stF2 (fm_tag1_f c_22 (Or.inl ⟨c_37, c_51⟩))) ?_
                  refine lv_istore_n (lv' := [(1, .int (fm_bI (fm_all (i + 1) (fun k => fm_tag1 (fm_RB f) (fm_HF (fm_RB f) 2 + k))))), (3, .int (nI (fm_tag (fm_RB f) (fm_HF (fm_RB f) 2 + i)))), (0, .ref fa), (2, .int (nI (fm_HF (fm_RB f) 2 + i)))]) hx hb d_MO_areTagsRight_91 rfl hl (by decide) rfl (fun ls hl => ?_)
                  refine lv_iinc (v := nI (fm_HF (fm_RB f) 2 + i + 1)) (lv' := [(2, .int (nI (fm_HF (fm_RB f) 2 + i + 1))), (1, .int (fm_bI (fm_all (i + 1) (fun k => fm_tag1 (fm_RB f) (fm_HF (fm_RB f) 2 + k))))), (3, .int (nI (fm_tag (fm_RB f) (fm_HF (fm_RB f) 2 + i)))), (0, .ref fa)]) hx hb d_MO_areTagsRight_92 hl (k := 3) rfl (nI_1 _) (by decide) rfl (fun ls hl => ?_)
                  refine lv_goto (tgt := 8) hx hb d_MO_areTagsRight_95 (by decide) ?_
                  exact ih_8 (i + 1) ls (by omega) (by omega) (lv_sub hl [3, 1, 0] rfl)
                · have c_75 : fm_tag (fm_RB f) (fm_HF (fm_RB f) 2 + i) = 2 := (nI_eq (a := fm_tag (fm_RB f) (fm_HF (fm_RB f) 2 + i)) (b := 2) (by omega) (by omega)).mp c0
                  refine lv_aload_n hx hb d_MO_areTagsRight_78 rfl (lv_at hl 1 rfl) ?_
                  refine lv_iload_n hx hb d_MO_areTagsRight_79 rfl (lv_at hl 3 rfl) ?_
                  refine fm_cs S (c_MO_isLargerRight l dC dI fa cB f (fm_HF (fm_RB f) 2 + i) (hL) (by omega) (by omega)) rfl rfl k_MO_isLargerRight q_3_203 ⟨Nat.le_of_ble_eq_true rfl, Nat.le_of_ble_eq_true rfl⟩ (hP.sub [0] rfl) (hK.sub [0] rfl) rfl hl.1 rfl (Nat.le_of_ble_eq_true rfl) ⟨Nat.zero_le _, Nat.zero_le _⟩ d_MO_areTagsRight_80 ?_
                  refine lv_if_eq (tgt := 90) hx hb d_MO_areTagsRight_83 (by decide) (fun c0 => ?_) (fun c0 => ?_)
                  · have c_83 : (fm_larger (fm_RB f) (fm_HF (fm_RB f) 2 + i)) = false := fm_bI_f c0
                    refine lv_iconst (v := nI (0)) hx hb d_MO_areTagsRight_90 (by decide) ?_
                    refine fm_tw (z := (fm_bI (fm_all (i + 1) (fun k => fm_tag1 (fm_RB f) (fm_HF (fm_RB f) 2 + k))))) (by first | exact fm_stF1 c_32 | exact fm_stT c_32 (fm_tag1_t (fun h => by omega) (fun h => by omega) (fun h => by first | exact c_83 | omega)) | exact fm_stF2 (fm_tag1_f c_22 (Or.inr (Or.inr ⟨c_75, c_83⟩))) | exact fm_stF2 (fm_tag1_f c_22 (Or.inr (Or.inl ⟨c_56, c_70⟩))) | exact fm_stF2 (fm_tag1_f c_22 (Or.inl ⟨c_37, c_51⟩))) ?_
                    refine lv_istore_n (lv' := [(1, .int (fm_bI (fm_all (i + 1) (fun k => fm_tag1 (fm_RB f) (fm_HF (fm_RB f) 2 + k))))), (3, .int (nI (fm_tag (fm_RB f) (fm_HF (fm_RB f) 2 + i)))), (0, .ref fa), (2, .int (nI (fm_HF (fm_RB f) 2 + i)))]) hx hb d_MO_areTagsRight_91 rfl hl (by decide) rfl (fun ls hl => ?_)
                    refine lv_iinc (v := nI (fm_HF (fm_RB f) 2 + i + 1)) (lv' := [(2, .int (nI (fm_HF (fm_RB f) 2 + i + 1))), (1, .int (fm_bI (fm_all (i + 1) (fun k => fm_tag1 (fm_RB f) (fm_HF (fm_RB f) 2 + k))))), (3, .int (nI (fm_tag (fm_RB f) (fm_HF (fm_RB f) 2 + i)))), (0, .ref fa)]) hx hb d_MO_areTagsRight_92 hl (k := 3) rfl (nI_1 _) (by decide) rfl (fun ls hl => ?_)
                    refine lv_goto (tgt := 8) hx hb d_MO_areTagsRight_95 (by decide) ?_
                    exact ih_8 (i + 1) ls (by omega) (by omega) (lv_sub hl [3, 1, 0] rfl)
                  · have c_83 : (fm_larger (fm_RB f) (fm_HF (fm_RB f) 2 + i)) = true := fm_bI_t c0
                    refine lv_iconst (v := nI (1)) hx hb d_MO_areTagsRight_86 (by decide) ?_
                    refine lv_goto (tgt := 91) hx hb d_MO_areTagsRight_87 (by decide) ?_
                    refine fm_tw (z := (fm_bI (fm_all (i + 1) (fun k => fm_tag1 (fm_RB f) (fm_HF (fm_RB f) 2 + k))))) (by first | exact fm_stF1 c_32 | exact fm_stT c_32 (fm_tag1_t (fun h => by omega) (fun h => by omega) (fun h => by first | exact c_83 | omega)) | exact fm_stF2 (fm_tag1_f c_22 (Or.inr (Or.inr ⟨c_75, c_83⟩))) | exact fm_stF2 (fm_tag1_f c_22 (Or.inr (Or.inl ⟨c_56, c_70⟩))) | exact fm_stF2 (fm_tag1_f c_22 (Or.inl ⟨c_37, c_51⟩))) ?_
                    refine lv_istore_n (lv' := [(1, .int (fm_bI (fm_all (i + 1) (fun k => fm_tag1 (fm_RB f) (fm_HF (fm_RB f) 2 + k))))), (3, .int (nI (fm_tag (fm_RB f) (fm_HF (fm_RB f) 2 + i)))), (0, .ref fa), (2, .int (nI (fm_HF (fm_RB f) 2 + i)))]) hx hb d_MO_areTagsRight_91 rfl hl (by decide) rfl (fun ls hl => ?_)
                    refine lv_iinc (v := nI (fm_HF (fm_RB f) 2 + i + 1)) (lv' := [(2, .int (nI (fm_HF (fm_RB f) 2 + i + 1))), (1, .int (fm_bI (fm_all (i + 1) (fun k => fm_tag1 (fm_RB f) (fm_HF (fm_RB f) 2 + k))))), (3, .int (nI (fm_tag (fm_RB f) (fm_HF (fm_RB f) 2 + i)))), (0, .ref fa)]) hx hb d_MO_areTagsRight_92 hl (k := 3) rfl (nI_1 _) (by decide) rfl (fun ls hl => ?_)
                    refine lv_goto (tgt := 8) hx hb d_MO_areTagsRight_95 (by decide) ?_
                    exact ih_8 (i + 1) ls (by omega) (by omega) (lv_sub hl [3, 1, 0] rfl)
end
section
theorem d_MO_areFractions_0 : decode b_MO_areFractions 0 = .ok (.iconst 1, 1) := by decide +kernel
theorem d_MO_areFractions_1 : decode b_MO_areFractions 1 = .ok (.istore_n 3, 1) := by decide +kernel
theorem d_MO_areFractions_2 : decode b_MO_areFractions 2 = .ok (.iload_n 2, 1) := by decide +kernel
theorem d_MO_areFractions_3 : decode b_MO_areFractions 3 = .ok (.istore 4, 2) := by decide +kernel
theorem d_MO_areFractions_5 : decode b_MO_areFractions 5 = .ok (.iload 4, 2) := by decide +kernel
theorem d_MO_areFractions_7 : decode b_MO_areFractions 7 = .ok (.aload_n 0, 1) := by decide +kernel
theorem d_MO_areFractions_8 : decode b_MO_areFractions 8 = .ok (.iload_n 1, 1) := by decide +kernel
theorem d_MO_areFractions_9 : decode b_MO_areFractions 9 = .ok (.invokestatic 37, 3) := by decide +kernel
theorem d_MO_areFractions_12 : decode b_MO_areFractions 12 = .ok (.if_icmp .ge 44, 3) := by decide +kernel
theorem d_MO_areFractions_15 : decode b_MO_areFractions 15 = .ok (.iload_n 3, 1) := by decide +kernel
theorem d_MO_areFractions_16 : decode b_MO_areFractions 16 = .ok (.ifCond .eq 32, 3) := by decide +kernel
theorem d_MO_areFractions_19 : decode b_MO_areFractions 19 = .ok (.aload_n 0, 1) := by decide +kernel
theorem d_MO_areFractions_20 : decode b_MO_areFractions 20 = .ok (.iload_n 1, 1) := by decide +kernel
theorem d_MO_areFractions_21 : decode b_MO_areFractions 21 = .ok (.iload 4, 2) := by decide +kernel
theorem d_MO_areFractions_23 : decode b_MO_areFractions 23 = .ok (.iconst 0, 1) := by decide +kernel
theorem d_MO_areFractions_24 : decode b_MO_areFractions 24 = .ok (.invokestatic 43, 3) := by decide +kernel
theorem d_MO_areFractions_27 : decode b_MO_areFractions 27 = .ok (.ifCond .eq 17, 3) := by decide +kernel
theorem d_MO_areFractions_30 : decode b_MO_areFractions 30 = .ok (.aload_n 0, 1) := by decide +kernel
theorem d_MO_areFractions_31 : decode b_MO_areFractions 31 = .ok (.iload_n 1, 1) := by decide +kernel
theorem d_MO_areFractions_32 : decode b_MO_areFractions 32 = .ok (.iload 4, 2) := by decide +kernel
theorem d_MO_areFractions_34 : decode b_MO_areFractions 34 = .ok (.iconst 0, 1) := by decide +kernel
theorem d_MO_areFractions_35 : decode b_MO_areFractions 35 = .ok (.invokestatic 43, 3) := by decide +kernel
theorem d_MO_areFractions_38 : decode b_MO_areFractions 38 = .ok (.sipush 255, 3) := by decide +kernel
theorem d_MO_areFractions_41 : decode b_MO_areFractions 41 = .ok (.if_icmp .ne 7, 3) := by decide +kernel
theorem d_MO_areFractions_44 : decode b_MO_areFractions 44 = .ok (.iconst 1, 1) := by decide +kernel
theorem d_MO_areFractions_45 : decode b_MO_areFractions 45 = .ok (.goto 4, 3) := by decide +kernel
theorem d_MO_areFractions_48 : decode b_MO_areFractions 48 = .ok (.iconst 0, 1) := by decide +kernel
theorem d_MO_areFractions_49 : decode b_MO_areFractions 49 = .ok (.istore_n 3, 1) := by decide +kernel
theorem d_MO_areFractions_50 : decode b_MO_areFractions 50 = .ok (.iinc 4 1, 3) := by decide +kernel
theorem d_MO_areFractions_53 : decode b_MO_areFractions 53 = .ok (.goto (-48), 3) := by decide +kernel
theorem d_MO_areFractions_56 : decode b_MO_areFractions 56 = .ok (.iload_n 3, 1) := by decide +kernel
theorem d_MO_areFractions_57 : decode b_MO_areFractions 57 = .ok (.ireturn, 1) := by decide +kernel
set_option maxHeartbeats 4000000 in
set_option maxRecDepth 100000 in
theorem c_MO_areFractions (l : Launch) (dC : Nat → ClassId) (dI : Nat → Nat → Nat) (fa : Nat) (cB : ClassId) (f : Nat → Int32) (p : Nat) (first : Nat) (hL : fm_Len (fm_RB f)) (hp : p < 10) (hf : first < 2) : fm_M l (dC, dI) y_MO_areFractions w_MO_areFractions ({ frames := 4, cells := 0, slots := 0, locals := 88 }) [.ref fa, .int (nI (p)), .int (nI (first))] [(fa, .inl (cB, 8192, .inl (f)))] [(cB, .byte)] ((fm_bI (fm_fracs (fm_RB f) p first))) := by
  refine Met.ofW (cc := b_MO_areFractions) (maxL := 5) (ret := (some .boolean)) (by decide) rfl ?_
  intro pg ev s m args below meth cd s₁ BD hml hv
  obtain ⟨rfl, hP, hK⟩ := hv
  have hx := BD.exec
  have hb := BD.bytes
  have hr := BD.returns
  have hts := atoms_spec (ws := w_MO_areFractions) BD.pre
  have ht : ∀ w ∈ fm_T, w.before _ s = true := fun w h => hts w (List.mem_cons_of_mem _ h)
  have hown : s.vm.findClass R_MO = some m.cls := findClass_of_methodNamed BD.named
  have hlocks := BD.notSynchronized
  have S : CallFix pg m cd b_MO_areFractions 5 s _ w_MO_areFractions R_MO := ⟨hx, hb, hml, hown, hts⟩
  have hl := lv_entry ([.ref fa, .int (nI (p)), .int (nI (first))]) (n := 5) (Nat.le_of_ble_eq_true rfl)
  rw [lg_entry_eq]
  generalize (lg_sl ([.ref fa, .int (nI (p)), .int (nI (first))]) ++ List.replicate (5 - (lg_sl ([.ref fa, .int (nI (p)), .int (nI (first))])).length) Slot.unset).toArray = ls at hl ⊢
  have hl : lv_has ls 5 [(0, .ref fa), (1, .int (nI (p))), (2, .int (nI (first)))] := hl
  obtain ⟨-, hq, h3, h10⟩ := id hL
  refine lv_iconst (v := nI (1)) hx hb d_MO_areFractions_0 (by decide) ?_
  refine lv_istore_n (lv' := [(3, .int (nI (1))), (0, .ref fa), (1, .int (nI (p))), (2, .int (nI (first)))]) hx hb d_MO_areFractions_1 rfl hl (by decide) rfl (fun ls hl => ?_)
  refine lv_iload_n hx hb d_MO_areFractions_2 rfl (lv_at hl 3 rfl) ?_
  refine lv_istore (lv' := [(4, .int (nI (first))), (3, .int (nI (1))), (0, .ref fa), (1, .int (nI (p))), (2, .int (nI (first)))]) hx hb d_MO_areFractions_3 hl (by decide) rfl (fun ls hl => ?_)
  have e0 : nI 1 = fm_bI (fm_all first (fm_fr (fm_RB f) p first)) := by rw [fm_all_lt (Nat.le_refl _)]; rfl
  rw [e0] at hl
  refine fm_loop1 (LV := fun (i : Nat) => [(0, .ref fa), (1, .int (nI (p))), (3, .int (fm_bI (fm_all (i) (fm_fr (fm_RB f) p first)))), (4, .int (nI (i)))]) (I := fun (i : Nat) => first ≤ i ∧ (i ≤ fm_WD (fm_RB f) p ∨ i = first)) (μ := fun (i : Nat) => fm_WD (fm_RB f) p - i) ?_ first (⟨Nat.le_refl _, Or.inr rfl⟩) ls (lv_sub hl [2, 3, 1, 0] rfl)
  intro i hI_5 ih_5 ls hl
  have hl : lv_has ls 5 [(0, .ref fa), (1, .int (nI (p))), (3, .int (fm_bI (fm_all (i) (fm_fr (fm_RB f) p first)))), (4, .int (nI (i)))] := hl
  refine lv_iload hx hb d_MO_areFractions_5 (lv_at hl 3 rfl) ?_
  refine lv_aload_n hx hb d_MO_areFractions_7 rfl (lv_at hl 0 rfl) ?_
  refine lv_iload_n hx hb d_MO_areFractions_8 rfl (lv_at hl 1 rfl) ?_
  refine fm_cs S (c_MO_words l dC dI fa cB f p (by omega) (fun _ => hq)) rfl rfl k_MO_words q_3_175 ⟨Nat.le_of_ble_eq_true rfl, Nat.le_of_ble_eq_true rfl⟩ (hP.sub [0] rfl) (hK.sub [0] rfl) rfl hl.1 rfl (Nat.le_of_ble_eq_true rfl) ⟨Nat.zero_le _, Nat.zero_le _⟩ d_MO_areFractions_9 ?_
  have f0_9 := fm_WD_le (fm_RB_lt f) p
  refine lv_icmp_ge (tgt := 56) hx hb d_MO_areFractions_12 (by decide) (fun c0 => ?_) (fun c0 => ?_)
  · have c_12 : fm_WD (fm_RB f) p ≤ i := (nI_leI (a := fm_WD (fm_RB f) p) (b := i) (by omega) (by omega)).mp c0
    refine lv_iload_n hx hb d_MO_areFractions_56 rfl (lv_at hl 2 rfl) ?_
    exact W.zret (ty := .boolean) hx hb hr (fm_bI_z _) (fun t ht hW => ⟨_, rfl, fm_bb (fm_fracs_x c_12 hI_5.2), ht⟩) (fun q hq => by cases hq) d_MO_areFractions_57
  · have c_12 : ¬ (fm_WD (fm_RB f) p ≤ i) := fun z => c0 ((nI_leI (a := fm_WD (fm_RB f) p) (b := i) (by omega) (by omega)).mpr z)
    have hin := fm_pin hL hp (Nat.lt_of_not_le c_12)
    refine lv_iload_n hx hb d_MO_areFractions_15 rfl (lv_at hl 2 rfl) ?_
    refine lv_if_eq (tgt := 48) hx hb d_MO_areFractions_16 (by decide) (fun c0 => ?_) (fun c0 => ?_)
    · have c_16 : (fm_all (i) (fm_fr (fm_RB f) p first)) = false := fm_bI_f c0
      refine lv_iconst (v := nI (0)) hx hb d_MO_areFractions_48 (by decide) ?_
      refine fm_tw (z := (fm_bI (fm_all (i + 1) (fm_fr (fm_RB f) p first)))) (by first | exact fm_stF1 c_16 | exact fm_stT c_16 (fm_fr_t (Or.inl c_27)) | exact fm_stT c_16 (fm_fr_t (Or.inr c_41)) | exact fm_stF2 (fm_fr_f hI_5.1 c_27 c_41)) ?_
      refine lv_istore_n (lv' := [(3, .int (fm_bI (fm_all (i + 1) (fm_fr (fm_RB f) p first)))), (0, .ref fa), (1, .int (nI (p))), (4, .int (nI (i)))]) hx hb d_MO_areFractions_49 rfl hl (by decide) rfl (fun ls hl => ?_)
      refine lv_iinc (v := nI (i + 1)) (lv' := [(4, .int (nI (i + 1))), (3, .int (fm_bI (fm_all (i + 1) (fm_fr (fm_RB f) p first)))), (0, .ref fa), (1, .int (nI (p)))]) hx hb d_MO_areFractions_50 hl (k := 3) rfl (nI_1 _) (by decide) rfl (fun ls hl => ?_)
      refine lv_goto (tgt := 5) hx hb d_MO_areFractions_53 (by decide) ?_
      exact ih_5 (i + 1) ls (⟨by omega, by omega⟩) (by omega) (lv_sub hl [2, 3, 1, 0] rfl)
    · have c_16 : (fm_all (i) (fm_fr (fm_RB f) p first)) = true := fm_bI_t c0
      refine lv_aload_n hx hb d_MO_areFractions_19 rfl (lv_at hl 0 rfl) ?_
      refine lv_iload_n hx hb d_MO_areFractions_20 rfl (lv_at hl 1 rfl) ?_
      refine lv_iload hx hb d_MO_areFractions_21 (lv_at hl 3 rfl) ?_
      refine lv_iconst (v := nI (0)) hx hb d_MO_areFractions_23 (by decide) ?_
      refine fm_cs S (c_MO_at l dC dI fa cB f p i 0 (by omega) (hq) (by omega) (by omega)) rfl rfl k_MO_at q_3_184 ⟨Nat.le_of_ble_eq_true rfl, Nat.le_of_ble_eq_true rfl⟩ (hP.sub [0] rfl) (hK.sub [0] rfl) rfl hl.1 rfl (Nat.le_of_ble_eq_true rfl) ⟨Nat.zero_le _, Nat.zero_le _⟩ d_MO_areFractions_24 ?_
      have f0_24 := fm_AT_lt (fm_RB_lt f) p i 0
      refine lv_if_eq (tgt := 44) hx hb d_MO_areFractions_27 (by decide) (fun c0 => ?_) (fun c0 => ?_)
      · have c_27 : fm_AT (fm_RB f) p i 0 = 0 := (nI_eq (a := fm_AT (fm_RB f) p i 0) (b := 0) (by omega) (by omega)).mp c0
        refine lv_iconst (v := nI (1)) hx hb d_MO_areFractions_44 (by decide) ?_
        refine lv_goto (tgt := 49) hx hb d_MO_areFractions_45 (by decide) ?_
        refine fm_tw (z := (fm_bI (fm_all (i + 1) (fm_fr (fm_RB f) p first)))) (by first | exact fm_stF1 c_16 | exact fm_stT c_16 (fm_fr_t (Or.inl c_27)) | exact fm_stT c_16 (fm_fr_t (Or.inr c_41)) | exact fm_stF2 (fm_fr_f hI_5.1 c_27 c_41)) ?_
        refine lv_istore_n (lv' := [(3, .int (fm_bI (fm_all (i + 1) (fm_fr (fm_RB f) p first)))), (0, .ref fa), (1, .int (nI (p))), (4, .int (nI (i)))]) hx hb d_MO_areFractions_49 rfl hl (by decide) rfl (fun ls hl => ?_)
        refine lv_iinc (v := nI (i + 1)) (lv' := [(4, .int (nI (i + 1))), (3, .int (fm_bI (fm_all (i + 1) (fm_fr (fm_RB f) p first)))), (0, .ref fa), (1, .int (nI (p)))]) hx hb d_MO_areFractions_50 hl (k := 3) rfl (nI_1 _) (by decide) rfl (fun ls hl => ?_)
        refine lv_goto (tgt := 5) hx hb d_MO_areFractions_53 (by decide) ?_
        exact ih_5 (i + 1) ls (⟨by omega, by omega⟩) (by omega) (lv_sub hl [2, 3, 1, 0] rfl)
      · have c_27 : ¬ (fm_AT (fm_RB f) p i 0 = 0) := fun z => c0 ((nI_eq (a := fm_AT (fm_RB f) p i 0) (b := 0) (by omega) (by omega)).mpr z)
        refine lv_aload_n hx hb d_MO_areFractions_30 rfl (lv_at hl 0 rfl) ?_
        refine lv_iload_n hx hb d_MO_areFractions_31 rfl (lv_at hl 1 rfl) ?_
        refine lv_iload hx hb d_MO_areFractions_32 (lv_at hl 3 rfl) ?_
        refine lv_iconst (v := nI (0)) hx hb d_MO_areFractions_34 (by decide) ?_
        refine fm_cs S (c_MO_at l dC dI fa cB f p i 0 (by omega) (hq) (by omega) (by omega)) rfl rfl k_MO_at q_3_184 ⟨Nat.le_of_ble_eq_true rfl, Nat.le_of_ble_eq_true rfl⟩ (hP.sub [0] rfl) (hK.sub [0] rfl) rfl hl.1 rfl (Nat.le_of_ble_eq_true rfl) ⟨Nat.zero_le _, Nat.zero_le _⟩ d_MO_areFractions_35 ?_
        have f0_35 := fm_AT_lt (fm_RB_lt f) p i 0
        refine lv_sipush (v := nI (255)) hx hb d_MO_areFractions_38 (by decide) ?_
        refine lv_icmp_ne (tgt := 48) hx hb d_MO_areFractions_41 (by decide) (fun c0 => ?_) (fun c0 => ?_)
        · have c_41 : ¬ (fm_AT (fm_RB f) p i 0 = 255) := fun z => c0 ((nI_eq (a := fm_AT (fm_RB f) p i 0) (b := 255) (by omega) (by omega)).mpr z)
          refine lv_iconst (v := nI (0)) hx hb d_MO_areFractions_48 (by decide) ?_
          refine fm_tw (z := (fm_bI (fm_all (i + 1) (fm_fr (fm_RB f) p first)))) (by first | exact fm_stF1 c_16 | exact fm_stT c_16 (fm_fr_t (Or.inl c_27)) | exact fm_stT c_16 (fm_fr_t (Or.inr c_41)) | exact fm_stF2 (fm_fr_f hI_5.1 c_27 c_41)) ?_
          refine lv_istore_n (lv' := [(3, .int (fm_bI (fm_all (i + 1) (fm_fr (fm_RB f) p first)))), (0, .ref fa), (1, .int (nI (p))), (4, .int (nI (i)))]) hx hb d_MO_areFractions_49 rfl hl (by decide) rfl (fun ls hl => ?_)
          refine lv_iinc (v := nI (i + 1)) (lv' := [(4, .int (nI (i + 1))), (3, .int (fm_bI (fm_all (i + 1) (fm_fr (fm_RB f) p first)))), (0, .ref fa), (1, .int (nI (p)))]) hx hb d_MO_areFractions_50 hl (k := 3) rfl (nI_1 _) (by decide) rfl (fun ls hl => ?_)
          refine lv_goto (tgt := 5) hx hb d_MO_areFractions_53 (by decide) ?_
          exact ih_5 (i + 1) ls (⟨by omega, by omega⟩) (by omega) (lv_sub hl [2, 3, 1, 0] rfl)
        · have c_41 : fm_AT (fm_RB f) p i 0 = 255 := (nI_eq (a := fm_AT (fm_RB f) p i 0) (b := 255) (by omega) (by omega)).mp c0
          refine lv_iconst (v := nI (1)) hx hb d_MO_areFractions_44 (by decide) ?_
          refine lv_goto (tgt := 49) hx hb d_MO_areFractions_45 (by decide) ?_
          refine fm_tw (z := (fm_bI (fm_all (i + 1) (fm_fr (fm_RB f) p first)))) (by first | exact fm_stF1 c_16 | exact fm_stT c_16 (fm_fr_t (Or.inl c_27)) | exact fm_stT c_16 (fm_fr_t (Or.inr c_41)) | exact fm_stF2 (fm_fr_f hI_5.1 c_27 c_41)) ?_
          refine lv_istore_n (lv' := [(3, .int (fm_bI (fm_all (i + 1) (fm_fr (fm_RB f) p first)))), (0, .ref fa), (1, .int (nI (p))), (4, .int (nI (i)))]) hx hb d_MO_areFractions_49 rfl hl (by decide) rfl (fun ls hl => ?_)
          refine lv_iinc (v := nI (i + 1)) (lv' := [(4, .int (nI (i + 1))), (3, .int (fm_bI (fm_all (i + 1) (fm_fr (fm_RB f) p first)))), (0, .ref fa), (1, .int (nI (p)))]) hx hb d_MO_areFractions_50 hl (k := 3) rfl (nI_1 _) (by decide) rfl (fun ls hl => ?_)
          refine lv_goto (tgt := 5) hx hb d_MO_areFractions_53 (by decide) ?_
          exact ih_5 (i + 1) ls (⟨by omega, by omega⟩) (by omega) (lv_sub hl [2, 3, 1, 0] rfl)
theorem d_MO_areTablesRight_0 : decode b_MO_areTablesRight 0 = .ok (.aload_n 0, 1) := by decide +kernel
theorem d_MO_areTablesRight_1 : decode b_MO_areTablesRight 1 = .ok (.bipush 7, 2) := by decide +kernel
theorem d_MO_areTablesRight_3 : decode b_MO_areTablesRight 3 = .ok (.iconst 0, 1) := by decide +kernel
theorem d_MO_areTablesRight_4 : decode b_MO_areTablesRight 4 = .ok (.invokestatic 63, 3) := by decide +kernel
theorem d_MO_areTablesRight_7 : decode b_MO_areTablesRight 7 = .ok (.istore_n 1, 1) := by decide +kernel
theorem d_MO_areTablesRight_8 : decode b_MO_areTablesRight 8 = .ok (.iconst 2, 1) := by decide +kernel
theorem d_MO_areTablesRight_9 : decode b_MO_areTablesRight 9 = .ok (.istore_n 2, 1) := by decide +kernel
theorem d_MO_areTablesRight_10 : decode b_MO_areTablesRight 10 = .ok (.iload_n 2, 1) := by decide +kernel
theorem d_MO_areTablesRight_11 : decode b_MO_areTablesRight 11 = .ok (.bipush 6, 2) := by decide +kernel
theorem d_MO_areTablesRight_13 : decode b_MO_areTablesRight 13 = .ok (.if_icmp .ge 61, 3) := by decide +kernel
theorem d_MO_areTablesRight_16 : decode b_MO_areTablesRight 16 = .ok (.iload_n 1, 1) := by decide +kernel
theorem d_MO_areTablesRight_17 : decode b_MO_areTablesRight 17 = .ok (.ifCond .eq 16, 3) := by decide +kernel
theorem d_MO_areTablesRight_20 : decode b_MO_areTablesRight 20 = .ok (.aload_n 0, 1) := by decide +kernel
theorem d_MO_areTablesRight_21 : decode b_MO_areTablesRight 21 = .ok (.iload_n 2, 1) := by decide +kernel
theorem d_MO_areTablesRight_22 : decode b_MO_areTablesRight 22 = .ok (.iconst 0, 1) := by decide +kernel
theorem d_MO_areTablesRight_23 : decode b_MO_areTablesRight 23 = .ok (.invokestatic 63, 3) := by decide +kernel
theorem d_MO_areTablesRight_26 : decode b_MO_areTablesRight 26 = .ok (.ifCond .eq 7, 3) := by decide +kernel
theorem d_MO_areTablesRight_29 : decode b_MO_areTablesRight 29 = .ok (.iconst 1, 1) := by decide +kernel
theorem d_MO_areTablesRight_30 : decode b_MO_areTablesRight 30 = .ok (.goto 4, 3) := by decide +kernel
theorem d_MO_areTablesRight_33 : decode b_MO_areTablesRight 33 = .ok (.iconst 0, 1) := by decide +kernel
theorem d_MO_areTablesRight_34 : decode b_MO_areTablesRight 34 = .ok (.istore_n 1, 1) := by decide +kernel
theorem d_MO_areTablesRight_35 : decode b_MO_areTablesRight 35 = .ok (.iconst 0, 1) := by decide +kernel
theorem d_MO_areTablesRight_36 : decode b_MO_areTablesRight 36 = .ok (.istore_n 3, 1) := by decide +kernel
theorem d_MO_areTablesRight_37 : decode b_MO_areTablesRight 37 = .ok (.iload_n 3, 1) := by decide +kernel
theorem d_MO_areTablesRight_38 : decode b_MO_areTablesRight 38 = .ok (.iconst 4, 1) := by decide +kernel
theorem d_MO_areTablesRight_39 : decode b_MO_areTablesRight 39 = .ok (.if_icmp .ge 29, 3) := by decide +kernel
theorem d_MO_areTablesRight_42 : decode b_MO_areTablesRight 42 = .ok (.iload_n 1, 1) := by decide +kernel
theorem d_MO_areTablesRight_43 : decode b_MO_areTablesRight 43 = .ok (.ifCond .eq 17, 3) := by decide +kernel
theorem d_MO_areTablesRight_46 : decode b_MO_areTablesRight 46 = .ok (.aload_n 0, 1) := by decide +kernel
theorem d_MO_areTablesRight_47 : decode b_MO_areTablesRight 47 = .ok (.iload_n 2, 1) := by decide +kernel
theorem d_MO_areTablesRight_48 : decode b_MO_areTablesRight 48 = .ok (.iconst 0, 1) := by decide +kernel
theorem d_MO_areTablesRight_49 : decode b_MO_areTablesRight 49 = .ok (.iload_n 3, 1) := by decide +kernel
theorem d_MO_areTablesRight_50 : decode b_MO_areTablesRight 50 = .ok (.invokestatic 43, 3) := by decide +kernel
theorem d_MO_areTablesRight_53 : decode b_MO_areTablesRight 53 = .ok (.ifCond .ne 7, 3) := by decide +kernel
theorem d_MO_areTablesRight_56 : decode b_MO_areTablesRight 56 = .ok (.iconst 1, 1) := by decide +kernel
theorem d_MO_areTablesRight_57 : decode b_MO_areTablesRight 57 = .ok (.goto 4, 3) := by decide +kernel
theorem d_MO_areTablesRight_60 : decode b_MO_areTablesRight 60 = .ok (.iconst 0, 1) := by decide +kernel
theorem d_MO_areTablesRight_61 : decode b_MO_areTablesRight 61 = .ok (.istore_n 1, 1) := by decide +kernel
theorem d_MO_areTablesRight_62 : decode b_MO_areTablesRight 62 = .ok (.iinc 3 1, 3) := by decide +kernel
theorem d_MO_areTablesRight_65 : decode b_MO_areTablesRight 65 = .ok (.goto (-28), 3) := by decide +kernel
theorem d_MO_areTablesRight_68 : decode b_MO_areTablesRight 68 = .ok (.iinc 2 1, 3) := by decide +kernel
theorem d_MO_areTablesRight_71 : decode b_MO_areTablesRight 71 = .ok (.goto (-61), 3) := by decide +kernel
theorem d_MO_areTablesRight_74 : decode b_MO_areTablesRight 74 = .ok (.iload_n 1, 1) := by decide +kernel
theorem d_MO_areTablesRight_75 : decode b_MO_areTablesRight 75 = .ok (.ireturn, 1) := by decide +kernel
set_option maxHeartbeats 4000000 in
set_option maxRecDepth 100000 in
theorem c_MO_areTablesRight (l : Launch) (dC : Nat → ClassId) (dI : Nat → Nat → Nat) (fa : Nat) (cB : ClassId) (f : Nat → Int32) (hL : fm_Len (fm_RB f)) (hne : ∀ p, 2 ≤ p → p < 6 → 0 < fm_WD (fm_RB f) p) : fm_M l (dC, dI) y_MO_areTablesRight w_MO_areTablesRight ({ frames := 5, cells := 0, slots := 0, locals := 112 }) [.ref fa] [(fa, .inl (cB, 8192, .inl (f)))] [(cB, .byte)] ((fm_bI (fm_tables (fm_RB f)))) := by
  refine Met.ofW (cc := b_MO_areTablesRight) (maxL := 4) (ret := (some .boolean)) (by decide) rfl ?_
  intro pg ev s m args below meth cd s₁ BD hml hv
  obtain ⟨rfl, hP, hK⟩ := hv
  have hx := BD.exec
  have hb := BD.bytes
  have hr := BD.returns
  have hts := atoms_spec (ws := w_MO_areTablesRight) BD.pre
  have ht : ∀ w ∈ fm_T, w.before _ s = true := fun w h => hts w (List.mem_cons_of_mem _ h)
  have hown : s.vm.findClass R_MO = some m.cls := findClass_of_methodNamed BD.named
  have hlocks := BD.notSynchronized
  have S : CallFix pg m cd b_MO_areTablesRight 4 s _ w_MO_areTablesRight R_MO := ⟨hx, hb, hml, hown, hts⟩
  have hl := lv_entry ([.ref fa]) (n := 4) (Nat.le_of_ble_eq_true rfl)
  rw [lg_entry_eq]
  generalize (lg_sl ([.ref fa]) ++ List.replicate (4 - (lg_sl ([.ref fa])).length) Slot.unset).toArray = ls at hl ⊢
  have hl : lv_has ls 4 [(0, .ref fa)] := hl
  obtain ⟨-, hq, h3, h10⟩ := id hL
  refine lv_aload_n hx hb d_MO_areTablesRight_0 rfl (lv_at hl 0 rfl) ?_
  refine lv_bipush (v := nI (7)) hx hb d_MO_areTablesRight_1 (by decide) ?_
  refine lv_iconst (v := nI (0)) hx hb d_MO_areTablesRight_3 (by decide) ?_
  refine fm_cs S (c_MO_areFractions l dC dI fa cB f 7 0 (hL) (by omega) (by omega)) rfl rfl k_MO_areFractions q_3_209 ⟨Nat.le_of_ble_eq_true rfl, Nat.le_of_ble_eq_true rfl⟩ (hP.sub [0] rfl) (hK.sub [0] rfl) rfl hl.1 rfl (Nat.le_of_ble_eq_true rfl) ⟨Nat.zero_le _, Nat.zero_le _⟩ d_MO_areTablesRight_4 ?_
  refine lv_istore_n (lv' := [(1, .int (fm_bI (fm_fracs (fm_RB f) 7 0))), (0, .ref fa)]) hx hb d_MO_areTablesRight_7 rfl hl (by decide) rfl (fun ls hl => ?_)
  refine lv_iconst (v := nI (2)) hx hb d_MO_areTablesRight_8 (by decide) ?_
  refine lv_istore_n (lv' := [(2, .int (nI (2))), (1, .int (fm_bI (fm_fracs (fm_RB f) 7 0))), (0, .ref fa)]) hx hb d_MO_areTablesRight_9 rfl hl (by decide) rfl (fun ls hl => ?_)
  rw [show fm_bI (fm_fracs (fm_RB f) 7 0) = fm_bI (fm_fracs (fm_RB f) 7 0 && fm_all 0 (fm_tab1 (fm_RB f))) from fm_bb (Bool.and_true _).symm] at hl
  refine fm_loop1 (LV := fun (j : Nat) => [(0, .ref fa), (1, .int (fm_bI (fm_fracs (fm_RB f) 7 0 && fm_all j (fm_tab1 (fm_RB f))))), (2, .int (nI (j + 2)))]) (I := fun (j : Nat) => j ≤ 4) (μ := fun (j : Nat) => 4 - j) ?_ 0 (by decide) ls (lv_sub hl [2, 1, 0] rfl)
  intro j hI_10 ih_10 ls hl
  have hl : lv_has ls 4 [(0, .ref fa), (1, .int (fm_bI (fm_fracs (fm_RB f) 7 0 && fm_all j (fm_tab1 (fm_RB f))))), (2, .int (nI (j + 2)))] := hl
  refine lv_iload_n hx hb d_MO_areTablesRight_10 rfl (lv_at hl 2 rfl) ?_
  refine lv_bipush (v := nI (6)) hx hb d_MO_areTablesRight_11 (by decide) ?_
  refine lv_icmp_ge (tgt := 74) hx hb d_MO_areTablesRight_13 (by decide) (fun c0 => ?_) (fun c0 => ?_)
  · have c_13 : 6 ≤ j + 2 := (nI_leI (a := 6) (b := j + 2) (by omega) (by omega)).mp c0
    refine lv_iload_n hx hb d_MO_areTablesRight_74 rfl (lv_at hl 1 rfl) ?_
    exact W.zret (ty := .boolean) hx hb hr (fm_bI_z _) (fun t ht hW => ⟨_, rfl, fm_bb (by rw [fm_tables, show j = 4 by omega]), ht⟩) (fun q hq => by cases hq) d_MO_areTablesRight_75
  · have c_13 : ¬ (6 ≤ j + 2) := fun z => c0 ((nI_leI (a := 6) (b := j + 2) (by omega) (by omega)).mpr z)
    refine lv_iload_n hx hb d_MO_areTablesRight_16 rfl (lv_at hl 1 rfl) ?_
    refine lv_if_eq (tgt := 33) hx hb d_MO_areTablesRight_17 (by decide) (fun c0 => ?_) (fun c0 => ?_)
    · have c_17 : (fm_fracs (fm_RB f) 7 0 && fm_all j (fm_tab1 (fm_RB f))) = false := fm_bI_f c0
      refine lv_iconst (v := nI (0)) hx hb d_MO_areTablesRight_33 (by decide) ?_
      refine fm_tw (z := (fm_bI ((fm_fracs (fm_RB f) 7 0 && fm_all j (fm_tab1 (fm_RB f))) && (fm_fracs (fm_RB f) (j + 2) 0 && fm_all 0 (fm_zb (fm_RB f) (j + 2)))))) (by first | exact fm_cF1 c_17 | exact fm_cT c_17 (by rw [c_26]; rfl) | exact fm_cF2 (by rw [c_26]; rfl)) ?_
      refine lv_istore_n (lv' := [(1, .int (fm_bI ((fm_fracs (fm_RB f) 7 0 && fm_all j (fm_tab1 (fm_RB f))) && (fm_fracs (fm_RB f) (j + 2) 0 && fm_all 0 (fm_zb (fm_RB f) (j + 2)))))), (0, .ref fa), (2, .int (nI (j + 2)))]) hx hb d_MO_areTablesRight_34 rfl hl (by decide) rfl (fun ls hl => ?_)
      refine lv_iconst (v := nI (0)) hx hb d_MO_areTablesRight_35 (by decide) ?_
      refine lv_istore_n (lv' := [(3, .int (nI (0))), (1, .int (fm_bI ((fm_fracs (fm_RB f) 7 0 && fm_all j (fm_tab1 (fm_RB f))) && (fm_fracs (fm_RB f) (j + 2) 0 && fm_all 0 (fm_zb (fm_RB f) (j + 2)))))), (0, .ref fa), (2, .int (nI (j + 2)))]) hx hb d_MO_areTablesRight_36 rfl hl (by decide) rfl (fun ls hl => ?_)
      refine fm_loop1 (LV := fun (b : Nat) => [(0, .ref fa), (1, .int (fm_bI ((fm_fracs (fm_RB f) 7 0 && fm_all j (fm_tab1 (fm_RB f))) && (fm_fracs (fm_RB f) (j + 2) 0 && fm_all b (fm_zb (fm_RB f) (j + 2)))))), (2, .int (nI (j + 2))), (3, .int (nI (b)))]) (I := fun (b : Nat) => b ≤ 4) (μ := fun (b : Nat) => 4 - b) ?_ 0 (by decide) ls (lv_sub hl [2, 1, 3, 0] rfl)
      intro b hI_37 ih_37 ls hl
      have hl : lv_has ls 4 [(0, .ref fa), (1, .int (fm_bI ((fm_fracs (fm_RB f) 7 0 && fm_all j (fm_tab1 (fm_RB f))) && (fm_fracs (fm_RB f) (j + 2) 0 && fm_all b (fm_zb (fm_RB f) (j + 2)))))), (2, .int (nI (j + 2))), (3, .int (nI (b)))] := hl
      refine lv_iload_n hx hb d_MO_areTablesRight_37 rfl (lv_at hl 3 rfl) ?_
      refine lv_iconst (v := nI (4)) hx hb d_MO_areTablesRight_38 (by decide) ?_
      refine lv_icmp_ge (tgt := 68) hx hb d_MO_areTablesRight_39 (by decide) (fun c0 => ?_) (fun c0 => ?_)
      · have c_39 : 4 ≤ b := (nI_leI (a := 4) (b := b) (by omega) (by omega)).mp c0
        obtain rfl : b = 4 := by omega
        have hl : lv_has ls 4 [(0, .ref fa), (1, .int (fm_bI ((fm_fracs (fm_RB f) 7 0 && fm_all j (fm_tab1 (fm_RB f))) && (fm_fracs (fm_RB f) (j + 2) 0 && fm_all 4 (fm_zb (fm_RB f) (j + 2)))))), (2, .int (nI (j + 2)))] := lv_sub hl [0, 1, 2] rfl
        rw [show ((fm_bI ((fm_fracs (fm_RB f) 7 0 && fm_all j (fm_tab1 (fm_RB f))) && (fm_fracs (fm_RB f) (j + 2) 0 && fm_all 4 (fm_zb (fm_RB f) (j + 2))))) : Int32) = (fm_bI (fm_fracs (fm_RB f) 7 0 && fm_all (j + 1) (fm_tab1 (fm_RB f)))) from fm_bb (fm_tabs_s _)] at hl
        refine lv_iinc (v := nI (j + 2 + 1)) (lv' := [(2, .int (nI (j + 2 + 1))), (0, .ref fa), (1, .int (fm_bI (fm_fracs (fm_RB f) 7 0 && fm_all (j + 1) (fm_tab1 (fm_RB f)))))]) hx hb d_MO_areTablesRight_68 hl (k := 2) rfl (nI_1 _) (by decide) rfl (fun ls hl => ?_)
        refine lv_goto (tgt := 10) hx hb d_MO_areTablesRight_71 (by decide) ?_
        exact ih_10 (j + 1) ls (by omega) (by omega) (lv_sub hl [1, 2, 0] rfl)
      · have c_39 : ¬ (4 ≤ b) := fun z => c0 ((nI_leI (a := 4) (b := b) (by omega) (by omega)).mpr z)
        have hin := fm_pin hL (p := j + 2) (k := 0) (by omega) (hne _ (by omega) (by omega))
        refine lv_iload_n hx hb d_MO_areTablesRight_42 rfl (lv_at hl 1 rfl) ?_
        refine lv_if_eq (tgt := 60) hx hb d_MO_areTablesRight_43 (by decide) (fun c0 => ?_) (fun c0 => ?_)
        · have c_43 : ((fm_fracs (fm_RB f) 7 0 && fm_all j (fm_tab1 (fm_RB f))) && (fm_fracs (fm_RB f) (j + 2) 0 && fm_all b (fm_zb (fm_RB f) (j + 2)))) = false := fm_bI_f c0
          refine lv_iconst (v := nI (0)) hx hb d_MO_areTablesRight_60 (by decide) ?_
          refine fm_tw (z := (fm_bI ((fm_fracs (fm_RB f) 7 0 && fm_all j (fm_tab1 (fm_RB f))) && (fm_fracs (fm_RB f) (j + 2) 0 && fm_all (b + 1) (fm_zb (fm_RB f) (j + 2)))))) (by first | exact fm_iF1 c_43 | exact fm_iT c_43 (decide_eq_true c_53) | exact fm_iF2 (decide_eq_false c_53)) ?_
          refine lv_istore_n (lv' := [(1, .int (fm_bI ((fm_fracs (fm_RB f) 7 0 && fm_all j (fm_tab1 (fm_RB f))) && (fm_fracs (fm_RB f) (j + 2) 0 && fm_all (b + 1) (fm_zb (fm_RB f) (j + 2)))))), (0, .ref fa), (2, .int (nI (j + 2))), (3, .int (nI (b)))]) hx hb d_MO_areTablesRight_61 rfl hl (by decide) rfl (fun ls hl => ?_)
          refine lv_iinc (v := nI (b + 1)) (lv' := [(3, .int (nI (b + 1))), (1, .int (fm_bI ((fm_fracs (fm_RB f) 7 0 && fm_all j (fm_tab1 (fm_RB f))) && (fm_fracs (fm_RB f) (j + 2) 0 && fm_all (b + 1) (fm_zb (fm_RB f) (j + 2)))))), (0, .ref fa), (2, .int (nI (j + 2)))]) hx hb d_MO_areTablesRight_62 hl (k := 3) rfl (nI_1 _) (by decide) rfl (fun ls hl => ?_)
          refine lv_goto (tgt := 37) hx hb d_MO_areTablesRight_65 (by decide) ?_
          exact ih_37 (b + 1) ls (by omega) (by omega) (lv_sub hl [2, 1, 3, 0] rfl)
        · have c_43 : ((fm_fracs (fm_RB f) 7 0 && fm_all j (fm_tab1 (fm_RB f))) && (fm_fracs (fm_RB f) (j + 2) 0 && fm_all b (fm_zb (fm_RB f) (j + 2)))) = true := fm_bI_t c0
          refine lv_aload_n hx hb d_MO_areTablesRight_46 rfl (lv_at hl 0 rfl) ?_
          refine lv_iload_n hx hb d_MO_areTablesRight_47 rfl (lv_at hl 2 rfl) ?_
          refine lv_iconst (v := nI (0)) hx hb d_MO_areTablesRight_48 (by decide) ?_
          refine lv_iload_n hx hb d_MO_areTablesRight_49 rfl (lv_at hl 3 rfl) ?_
          refine fm_cs S (c_MO_at l dC dI fa cB f (j + 2) 0 b (by omega) (hq) (by omega) (by omega)) rfl rfl k_MO_at q_3_184 ⟨Nat.le_of_ble_eq_true rfl, Nat.le_of_ble_eq_true rfl⟩ (hP.sub [0] rfl) (hK.sub [0] rfl) rfl hl.1 rfl (Nat.le_of_ble_eq_true rfl) ⟨Nat.zero_le _, Nat.zero_le _⟩ d_MO_areTablesRight_50 ?_
          have f0_50 := fm_AT_lt (fm_RB_lt f) (j + 2) 0 b
          refine lv_if_ne (tgt := 60) hx hb d_MO_areTablesRight_53 (by decide) (fun c0 => ?_) (fun c0 => ?_)
          · have c_53 : ¬ (fm_AT (fm_RB f) (j + 2) 0 b = 0) := fun z => c0 ((nI_eq (a := fm_AT (fm_RB f) (j + 2) 0 b) (b := 0) (by omega) (by omega)).mpr z)
            refine lv_iconst (v := nI (0)) hx hb d_MO_areTablesRight_60 (by decide) ?_
            refine fm_tw (z := (fm_bI ((fm_fracs (fm_RB f) 7 0 && fm_all j (fm_tab1 (fm_RB f))) && (fm_fracs (fm_RB f) (j + 2) 0 && fm_all (b + 1) (fm_zb (fm_RB f) (j + 2)))))) (by first | exact fm_iF1 c_43 | exact fm_iT c_43 (decide_eq_true c_53) | exact fm_iF2 (decide_eq_false c_53)) ?_
            refine lv_istore_n (lv' := [(1, .int (fm_bI ((fm_fracs (fm_RB f) 7 0 && fm_all j (fm_tab1 (fm_RB f))) && (fm_fracs (fm_RB f) (j + 2) 0 && fm_all (b + 1) (fm_zb (fm_RB f) (j + 2)))))), (0, .ref fa), (2, .int (nI (j + 2))), (3, .int (nI (b)))]) hx hb d_MO_areTablesRight_61 rfl hl (by decide) rfl (fun ls hl => ?_)
            refine lv_iinc (v := nI (b + 1)) (lv' := [(3, .int (nI (b + 1))), (1, .int (fm_bI ((fm_fracs (fm_RB f) 7 0 && fm_all j (fm_tab1 (fm_RB f))) && (fm_fracs (fm_RB f) (j + 2) 0 && fm_all (b + 1) (fm_zb (fm_RB f) (j + 2)))))), (0, .ref fa), (2, .int (nI (j + 2)))]) hx hb d_MO_areTablesRight_62 hl (k := 3) rfl (nI_1 _) (by decide) rfl (fun ls hl => ?_)
            refine lv_goto (tgt := 37) hx hb d_MO_areTablesRight_65 (by decide) ?_
            exact ih_37 (b + 1) ls (by omega) (by omega) (lv_sub hl [2, 1, 3, 0] rfl)
          · have c_53 : fm_AT (fm_RB f) (j + 2) 0 b = 0 := (nI_eq (a := fm_AT (fm_RB f) (j + 2) 0 b) (b := 0) (by omega) (by omega)).mp c0
            refine lv_iconst (v := nI (1)) hx hb d_MO_areTablesRight_56 (by decide) ?_
            refine lv_goto (tgt := 61) hx hb d_MO_areTablesRight_57 (by decide) ?_
            refine fm_tw (z := (fm_bI ((fm_fracs (fm_RB f) 7 0 && fm_all j (fm_tab1 (fm_RB f))) && (fm_fracs (fm_RB f) (j + 2) 0 && fm_all (b + 1) (fm_zb (fm_RB f) (j + 2)))))) (by first | exact fm_iF1 c_43 | exact fm_iT c_43 (decide_eq_true c_53) | exact fm_iF2 (decide_eq_false c_53)) ?_
            refine lv_istore_n (lv' := [(1, .int (fm_bI ((fm_fracs (fm_RB f) 7 0 && fm_all j (fm_tab1 (fm_RB f))) && (fm_fracs (fm_RB f) (j + 2) 0 && fm_all (b + 1) (fm_zb (fm_RB f) (j + 2)))))), (0, .ref fa), (2, .int (nI (j + 2))), (3, .int (nI (b)))]) hx hb d_MO_areTablesRight_61 rfl hl (by decide) rfl (fun ls hl => ?_)
            refine lv_iinc (v := nI (b + 1)) (lv' := [(3, .int (nI (b + 1))), (1, .int (fm_bI ((fm_fracs (fm_RB f) 7 0 && fm_all j (fm_tab1 (fm_RB f))) && (fm_fracs (fm_RB f) (j + 2) 0 && fm_all (b + 1) (fm_zb (fm_RB f) (j + 2)))))), (0, .ref fa), (2, .int (nI (j + 2)))]) hx hb d_MO_areTablesRight_62 hl (k := 3) rfl (nI_1 _) (by decide) rfl (fun ls hl => ?_)
            refine lv_goto (tgt := 37) hx hb d_MO_areTablesRight_65 (by decide) ?_
            exact ih_37 (b + 1) ls (by omega) (by omega) (lv_sub hl [2, 1, 3, 0] rfl)
    · have c_17 : (fm_fracs (fm_RB f) 7 0 && fm_all j (fm_tab1 (fm_RB f))) = true := fm_bI_t c0
      refine lv_aload_n hx hb d_MO_areTablesRight_20 rfl (lv_at hl 0 rfl) ?_
      refine lv_iload_n hx hb d_MO_areTablesRight_21 rfl (lv_at hl 2 rfl) ?_
      refine lv_iconst (v := nI (0)) hx hb d_MO_areTablesRight_22 (by decide) ?_
      refine fm_cs S (c_MO_areFractions l dC dI fa cB f (j + 2) 0 (hL) (by omega) (by omega)) rfl rfl k_MO_areFractions q_3_209 ⟨Nat.le_of_ble_eq_true rfl, Nat.le_of_ble_eq_true rfl⟩ (hP.sub [0] rfl) (hK.sub [0] rfl) rfl hl.1 rfl (Nat.le_of_ble_eq_true rfl) ⟨Nat.zero_le _, Nat.zero_le _⟩ d_MO_areTablesRight_23 ?_
      refine lv_if_eq (tgt := 33) hx hb d_MO_areTablesRight_26 (by decide) (fun c0 => ?_) (fun c0 => ?_)
      · have c_26 : (fm_fracs (fm_RB f) (j + 2) 0) = false := fm_bI_f c0
        refine lv_iconst (v := nI (0)) hx hb d_MO_areTablesRight_33 (by decide) ?_
        refine fm_tw (z := (fm_bI ((fm_fracs (fm_RB f) 7 0 && fm_all j (fm_tab1 (fm_RB f))) && (fm_fracs (fm_RB f) (j + 2) 0 && fm_all 0 (fm_zb (fm_RB f) (j + 2)))))) (by first | exact fm_cF1 c_17 | exact fm_cT c_17 (by rw [c_26]; rfl) | exact fm_cF2 (by rw [c_26]; rfl)) ?_
        refine lv_istore_n (lv' := [(1, .int (fm_bI ((fm_fracs (fm_RB f) 7 0 && fm_all j (fm_tab1 (fm_RB f))) && (fm_fracs (fm_RB f) (j + 2) 0 && fm_all 0 (fm_zb (fm_RB f) (j + 2)))))), (0, .ref fa), (2, .int (nI (j + 2)))]) hx hb d_MO_areTablesRight_34 rfl hl (by decide) rfl (fun ls hl => ?_)
        refine lv_iconst (v := nI (0)) hx hb d_MO_areTablesRight_35 (by decide) ?_
        refine lv_istore_n (lv' := [(3, .int (nI (0))), (1, .int (fm_bI ((fm_fracs (fm_RB f) 7 0 && fm_all j (fm_tab1 (fm_RB f))) && (fm_fracs (fm_RB f) (j + 2) 0 && fm_all 0 (fm_zb (fm_RB f) (j + 2)))))), (0, .ref fa), (2, .int (nI (j + 2)))]) hx hb d_MO_areTablesRight_36 rfl hl (by decide) rfl (fun ls hl => ?_)
        refine fm_loop1 (LV := fun (b : Nat) => [(0, .ref fa), (1, .int (fm_bI ((fm_fracs (fm_RB f) 7 0 && fm_all j (fm_tab1 (fm_RB f))) && (fm_fracs (fm_RB f) (j + 2) 0 && fm_all b (fm_zb (fm_RB f) (j + 2)))))), (2, .int (nI (j + 2))), (3, .int (nI (b)))]) (I := fun (b : Nat) => b ≤ 4) (μ := fun (b : Nat) => 4 - b) ?_ 0 (by decide) ls (lv_sub hl [2, 1, 3, 0] rfl)
        intro b hI_37 ih_37 ls hl
        have hl : lv_has ls 4 [(0, .ref fa), (1, .int (fm_bI ((fm_fracs (fm_RB f) 7 0 && fm_all j (fm_tab1 (fm_RB f))) && (fm_fracs (fm_RB f) (j + 2) 0 && fm_all b (fm_zb (fm_RB f) (j + 2)))))), (2, .int (nI (j + 2))), (3, .int (nI (b)))] := hl
        refine lv_iload_n hx hb d_MO_areTablesRight_37 rfl (lv_at hl 3 rfl) ?_
        refine lv_iconst (v := nI (4)) hx hb d_MO_areTablesRight_38 (by decide) ?_
        refine lv_icmp_ge (tgt := 68) hx hb d_MO_areTablesRight_39 (by decide) (fun c0 => ?_) (fun c0 => ?_)
        · have c_39 : 4 ≤ b := (nI_leI (a := 4) (b := b) (by omega) (by omega)).mp c0
          obtain rfl : b = 4 := by omega
          have hl : lv_has ls 4 [(0, .ref fa), (1, .int (fm_bI ((fm_fracs (fm_RB f) 7 0 && fm_all j (fm_tab1 (fm_RB f))) && (fm_fracs (fm_RB f) (j + 2) 0 && fm_all 4 (fm_zb (fm_RB f) (j + 2)))))), (2, .int (nI (j + 2)))] := lv_sub hl [0, 1, 2] rfl
          rw [show ((fm_bI ((fm_fracs (fm_RB f) 7 0 && fm_all j (fm_tab1 (fm_RB f))) && (fm_fracs (fm_RB f) (j + 2) 0 && fm_all 4 (fm_zb (fm_RB f) (j + 2))))) : Int32) = (fm_bI (fm_fracs (fm_RB f) 7 0 && fm_all (j + 1) (fm_tab1 (fm_RB f)))) from fm_bb (fm_tabs_s _)] at hl
          refine lv_iinc (v := nI (j + 2 + 1)) (lv' := [(2, .int (nI (j + 2 + 1))), (0, .ref fa), (1, .int (fm_bI (fm_fracs (fm_RB f) 7 0 && fm_all (j + 1) (fm_tab1 (fm_RB f)))))]) hx hb d_MO_areTablesRight_68 hl (k := 2) rfl (nI_1 _) (by decide) rfl (fun ls hl => ?_)
          refine lv_goto (tgt := 10) hx hb d_MO_areTablesRight_71 (by decide) ?_
          exact ih_10 (j + 1) ls (by omega) (by omega) (lv_sub hl [1, 2, 0] rfl)
        · have c_39 : ¬ (4 ≤ b) := fun z => c0 ((nI_leI (a := 4) (b := b) (by omega) (by omega)).mpr z)
          have hin := fm_pin hL (p := j + 2) (k := 0) (by omega) (hne _ (by omega) (by omega))
          refine lv_iload_n hx hb d_MO_areTablesRight_42 rfl (lv_at hl 1 rfl) ?_
          refine lv_if_eq (tgt := 60) hx hb d_MO_areTablesRight_43 (by decide) (fun c0 => ?_) (fun c0 => ?_)
          · have c_43 : ((fm_fracs (fm_RB f) 7 0 && fm_all j (fm_tab1 (fm_RB f))) && (fm_fracs (fm_RB f) (j + 2) 0 && fm_all b (fm_zb (fm_RB f) (j + 2)))) = false := fm_bI_f c0
            refine lv_iconst (v := nI (0)) hx hb d_MO_areTablesRight_60 (by decide) ?_
            refine fm_tw (z := (fm_bI ((fm_fracs (fm_RB f) 7 0 && fm_all j (fm_tab1 (fm_RB f))) && (fm_fracs (fm_RB f) (j + 2) 0 && fm_all (b + 1) (fm_zb (fm_RB f) (j + 2)))))) (by first | exact fm_iF1 c_43 | exact fm_iT c_43 (decide_eq_true c_53) | exact fm_iF2 (decide_eq_false c_53)) ?_
            refine lv_istore_n (lv' := [(1, .int (fm_bI ((fm_fracs (fm_RB f) 7 0 && fm_all j (fm_tab1 (fm_RB f))) && (fm_fracs (fm_RB f) (j + 2) 0 && fm_all (b + 1) (fm_zb (fm_RB f) (j + 2)))))), (0, .ref fa), (2, .int (nI (j + 2))), (3, .int (nI (b)))]) hx hb d_MO_areTablesRight_61 rfl hl (by decide) rfl (fun ls hl => ?_)
            refine lv_iinc (v := nI (b + 1)) (lv' := [(3, .int (nI (b + 1))), (1, .int (fm_bI ((fm_fracs (fm_RB f) 7 0 && fm_all j (fm_tab1 (fm_RB f))) && (fm_fracs (fm_RB f) (j + 2) 0 && fm_all (b + 1) (fm_zb (fm_RB f) (j + 2)))))), (0, .ref fa), (2, .int (nI (j + 2)))]) hx hb d_MO_areTablesRight_62 hl (k := 3) rfl (nI_1 _) (by decide) rfl (fun ls hl => ?_)
            refine lv_goto (tgt := 37) hx hb d_MO_areTablesRight_65 (by decide) ?_
            exact ih_37 (b + 1) ls (by omega) (by omega) (lv_sub hl [2, 1, 3, 0] rfl)
          · have c_43 : ((fm_fracs (fm_RB f) 7 0 && fm_all j (fm_tab1 (fm_RB f))) && (fm_fracs (fm_RB f) (j + 2) 0 && fm_all b (fm_zb (fm_RB f) (j + 2)))) = true := fm_bI_t c0
            refine lv_aload_n hx hb d_MO_areTablesRight_46 rfl (lv_at hl 0 rfl) ?_
            refine lv_iload_n hx hb d_MO_areTablesRight_47 rfl (lv_at hl 2 rfl) ?_
            refine lv_iconst (v := nI (0)) hx hb d_MO_areTablesRight_48 (by decide) ?_
            refine lv_iload_n hx hb d_MO_areTablesRight_49 rfl (lv_at hl 3 rfl) ?_
            refine fm_cs S (c_MO_at l dC dI fa cB f (j + 2) 0 b (by omega) (hq) (by omega) (by omega)) rfl rfl k_MO_at q_3_184 ⟨Nat.le_of_ble_eq_true rfl, Nat.le_of_ble_eq_true rfl⟩ (hP.sub [0] rfl) (hK.sub [0] rfl) rfl hl.1 rfl (Nat.le_of_ble_eq_true rfl) ⟨Nat.zero_le _, Nat.zero_le _⟩ d_MO_areTablesRight_50 ?_
            have f0_50 := fm_AT_lt (fm_RB_lt f) (j + 2) 0 b
            refine lv_if_ne (tgt := 60) hx hb d_MO_areTablesRight_53 (by decide) (fun c0 => ?_) (fun c0 => ?_)
            · have c_53 : ¬ (fm_AT (fm_RB f) (j + 2) 0 b = 0) := fun z => c0 ((nI_eq (a := fm_AT (fm_RB f) (j + 2) 0 b) (b := 0) (by omega) (by omega)).mpr z)
              refine lv_iconst (v := nI (0)) hx hb d_MO_areTablesRight_60 (by decide) ?_
              refine fm_tw (z := (fm_bI ((fm_fracs (fm_RB f) 7 0 && fm_all j (fm_tab1 (fm_RB f))) && (fm_fracs (fm_RB f) (j + 2) 0 && fm_all (b + 1) (fm_zb (fm_RB f) (j + 2)))))) (by first | exact fm_iF1 c_43 | exact fm_iT c_43 (decide_eq_true c_53) | exact fm_iF2 (decide_eq_false c_53)) ?_
              refine lv_istore_n (lv' := [(1, .int (fm_bI ((fm_fracs (fm_RB f) 7 0 && fm_all j (fm_tab1 (fm_RB f))) && (fm_fracs (fm_RB f) (j + 2) 0 && fm_all (b + 1) (fm_zb (fm_RB f) (j + 2)))))), (0, .ref fa), (2, .int (nI (j + 2))), (3, .int (nI (b)))]) hx hb d_MO_areTablesRight_61 rfl hl (by decide) rfl (fun ls hl => ?_)
              refine lv_iinc (v := nI (b + 1)) (lv' := [(3, .int (nI (b + 1))), (1, .int (fm_bI ((fm_fracs (fm_RB f) 7 0 && fm_all j (fm_tab1 (fm_RB f))) && (fm_fracs (fm_RB f) (j + 2) 0 && fm_all (b + 1) (fm_zb (fm_RB f) (j + 2)))))), (0, .ref fa), (2, .int (nI (j + 2)))]) hx hb d_MO_areTablesRight_62 hl (k := 3) rfl (nI_1 _) (by decide) rfl (fun ls hl => ?_)
              refine lv_goto (tgt := 37) hx hb d_MO_areTablesRight_65 (by decide) ?_
              exact ih_37 (b + 1) ls (by omega) (by omega) (lv_sub hl [2, 1, 3, 0] rfl)
            · have c_53 : fm_AT (fm_RB f) (j + 2) 0 b = 0 := (nI_eq (a := fm_AT (fm_RB f) (j + 2) 0 b) (b := 0) (by omega) (by omega)).mp c0
              refine lv_iconst (v := nI (1)) hx hb d_MO_areTablesRight_56 (by decide) ?_
              refine lv_goto (tgt := 61) hx hb d_MO_areTablesRight_57 (by decide) ?_
              refine fm_tw (z := (fm_bI ((fm_fracs (fm_RB f) 7 0 && fm_all j (fm_tab1 (fm_RB f))) && (fm_fracs (fm_RB f) (j + 2) 0 && fm_all (b + 1) (fm_zb (fm_RB f) (j + 2)))))) (by first | exact fm_iF1 c_43 | exact fm_iT c_43 (decide_eq_true c_53) | exact fm_iF2 (decide_eq_false c_53)) ?_
              refine lv_istore_n (lv' := [(1, .int (fm_bI ((fm_fracs (fm_RB f) 7 0 && fm_all j (fm_tab1 (fm_RB f))) && (fm_fracs (fm_RB f) (j + 2) 0 && fm_all (b + 1) (fm_zb (fm_RB f) (j + 2)))))), (0, .ref fa), (2, .int (nI (j + 2))), (3, .int (nI (b)))]) hx hb d_MO_areTablesRight_61 rfl hl (by decide) rfl (fun ls hl => ?_)
              refine lv_iinc (v := nI (b + 1)) (lv' := [(3, .int (nI (b + 1))), (1, .int (fm_bI ((fm_fracs (fm_RB f) 7 0 && fm_all j (fm_tab1 (fm_RB f))) && (fm_fracs (fm_RB f) (j + 2) 0 && fm_all (b + 1) (fm_zb (fm_RB f) (j + 2)))))), (0, .ref fa), (2, .int (nI (j + 2)))]) hx hb d_MO_areTablesRight_62 hl (k := 3) rfl (nI_1 _) (by decide) rfl (fun ls hl => ?_)
              refine lv_goto (tgt := 37) hx hb d_MO_areTablesRight_65 (by decide) ?_
              exact ih_37 (b + 1) ls (by omega) (by omega) (lv_sub hl [2, 1, 3, 0] rfl)
      · have c_26 : (fm_fracs (fm_RB f) (j + 2) 0) = true := fm_bI_t c0
        refine lv_iconst (v := nI (1)) hx hb d_MO_areTablesRight_29 (by decide) ?_
        refine lv_goto (tgt := 34) hx hb d_MO_areTablesRight_30 (by decide) ?_
        refine fm_tw (z := (fm_bI ((fm_fracs (fm_RB f) 7 0 && fm_all j (fm_tab1 (fm_RB f))) && (fm_fracs (fm_RB f) (j + 2) 0 && fm_all 0 (fm_zb (fm_RB f) (j + 2)))))) (by first | exact fm_cF1 c_17 | exact fm_cT c_17 (by rw [c_26]; rfl) | exact fm_cF2 (by rw [c_26]; rfl)) ?_
        refine lv_istore_n (lv' := [(1, .int (fm_bI ((fm_fracs (fm_RB f) 7 0 && fm_all j (fm_tab1 (fm_RB f))) && (fm_fracs (fm_RB f) (j + 2) 0 && fm_all 0 (fm_zb (fm_RB f) (j + 2)))))), (0, .ref fa), (2, .int (nI (j + 2)))]) hx hb d_MO_areTablesRight_34 rfl hl (by decide) rfl (fun ls hl => ?_)
        refine lv_iconst (v := nI (0)) hx hb d_MO_areTablesRight_35 (by decide) ?_
        refine lv_istore_n (lv' := [(3, .int (nI (0))), (1, .int (fm_bI ((fm_fracs (fm_RB f) 7 0 && fm_all j (fm_tab1 (fm_RB f))) && (fm_fracs (fm_RB f) (j + 2) 0 && fm_all 0 (fm_zb (fm_RB f) (j + 2)))))), (0, .ref fa), (2, .int (nI (j + 2)))]) hx hb d_MO_areTablesRight_36 rfl hl (by decide) rfl (fun ls hl => ?_)
        refine fm_loop1 (LV := fun (b : Nat) => [(0, .ref fa), (1, .int (fm_bI ((fm_fracs (fm_RB f) 7 0 && fm_all j (fm_tab1 (fm_RB f))) && (fm_fracs (fm_RB f) (j + 2) 0 && fm_all b (fm_zb (fm_RB f) (j + 2)))))), (2, .int (nI (j + 2))), (3, .int (nI (b)))]) (I := fun (b : Nat) => b ≤ 4) (μ := fun (b : Nat) => 4 - b) ?_ 0 (by decide) ls (lv_sub hl [2, 1, 3, 0] rfl)
        intro b hI_37 ih_37 ls hl
        have hl : lv_has ls 4 [(0, .ref fa), (1, .int (fm_bI ((fm_fracs (fm_RB f) 7 0 && fm_all j (fm_tab1 (fm_RB f))) && (fm_fracs (fm_RB f) (j + 2) 0 && fm_all b (fm_zb (fm_RB f) (j + 2)))))), (2, .int (nI (j + 2))), (3, .int (nI (b)))] := hl
        refine lv_iload_n hx hb d_MO_areTablesRight_37 rfl (lv_at hl 3 rfl) ?_
        refine lv_iconst (v := nI (4)) hx hb d_MO_areTablesRight_38 (by decide) ?_
        refine lv_icmp_ge (tgt := 68) hx hb d_MO_areTablesRight_39 (by decide) (fun c0 => ?_) (fun c0 => ?_)
        · have c_39 : 4 ≤ b := (nI_leI (a := 4) (b := b) (by omega) (by omega)).mp c0
          obtain rfl : b = 4 := by omega
          have hl : lv_has ls 4 [(0, .ref fa), (1, .int (fm_bI ((fm_fracs (fm_RB f) 7 0 && fm_all j (fm_tab1 (fm_RB f))) && (fm_fracs (fm_RB f) (j + 2) 0 && fm_all 4 (fm_zb (fm_RB f) (j + 2)))))), (2, .int (nI (j + 2)))] := lv_sub hl [0, 1, 2] rfl
          rw [show ((fm_bI ((fm_fracs (fm_RB f) 7 0 && fm_all j (fm_tab1 (fm_RB f))) && (fm_fracs (fm_RB f) (j + 2) 0 && fm_all 4 (fm_zb (fm_RB f) (j + 2))))) : Int32) = (fm_bI (fm_fracs (fm_RB f) 7 0 && fm_all (j + 1) (fm_tab1 (fm_RB f)))) from fm_bb (fm_tabs_s _)] at hl
          refine lv_iinc (v := nI (j + 2 + 1)) (lv' := [(2, .int (nI (j + 2 + 1))), (0, .ref fa), (1, .int (fm_bI (fm_fracs (fm_RB f) 7 0 && fm_all (j + 1) (fm_tab1 (fm_RB f)))))]) hx hb d_MO_areTablesRight_68 hl (k := 2) rfl (nI_1 _) (by decide) rfl (fun ls hl => ?_)
          refine lv_goto (tgt := 10) hx hb d_MO_areTablesRight_71 (by decide) ?_
          exact ih_10 (j + 1) ls (by omega) (by omega) (lv_sub hl [1, 2, 0] rfl)
        · have c_39 : ¬ (4 ≤ b) := fun z => c0 ((nI_leI (a := 4) (b := b) (by omega) (by omega)).mpr z)
          have hin := fm_pin hL (p := j + 2) (k := 0) (by omega) (hne _ (by omega) (by omega))
          refine lv_iload_n hx hb d_MO_areTablesRight_42 rfl (lv_at hl 1 rfl) ?_
          refine lv_if_eq (tgt := 60) hx hb d_MO_areTablesRight_43 (by decide) (fun c0 => ?_) (fun c0 => ?_)
          · have c_43 : ((fm_fracs (fm_RB f) 7 0 && fm_all j (fm_tab1 (fm_RB f))) && (fm_fracs (fm_RB f) (j + 2) 0 && fm_all b (fm_zb (fm_RB f) (j + 2)))) = false := fm_bI_f c0
            refine lv_iconst (v := nI (0)) hx hb d_MO_areTablesRight_60 (by decide) ?_
            refine fm_tw (z := (fm_bI ((fm_fracs (fm_RB f) 7 0 && fm_all j (fm_tab1 (fm_RB f))) && (fm_fracs (fm_RB f) (j + 2) 0 && fm_all (b + 1) (fm_zb (fm_RB f) (j + 2)))))) (by first | exact fm_iF1 c_43 | exact fm_iT c_43 (decide_eq_true c_53) | exact fm_iF2 (decide_eq_false c_53)) ?_
            refine lv_istore_n (lv' := [(1, .int (fm_bI ((fm_fracs (fm_RB f) 7 0 && fm_all j (fm_tab1 (fm_RB f))) && (fm_fracs (fm_RB f) (j + 2) 0 && fm_all (b + 1) (fm_zb (fm_RB f) (j + 2)))))), (0, .ref fa), (2, .int (nI (j + 2))), (3, .int (nI (b)))]) hx hb d_MO_areTablesRight_61 rfl hl (by decide) rfl (fun ls hl => ?_)
            refine lv_iinc (v := nI (b + 1)) (lv' := [(3, .int (nI (b + 1))), (1, .int (fm_bI ((fm_fracs (fm_RB f) 7 0 && fm_all j (fm_tab1 (fm_RB f))) && (fm_fracs (fm_RB f) (j + 2) 0 && fm_all (b + 1) (fm_zb (fm_RB f) (j + 2)))))), (0, .ref fa), (2, .int (nI (j + 2)))]) hx hb d_MO_areTablesRight_62 hl (k := 3) rfl (nI_1 _) (by decide) rfl (fun ls hl => ?_)
            refine lv_goto (tgt := 37) hx hb d_MO_areTablesRight_65 (by decide) ?_
            exact ih_37 (b + 1) ls (by omega) (by omega) (lv_sub hl [2, 1, 3, 0] rfl)
          · have c_43 : ((fm_fracs (fm_RB f) 7 0 && fm_all j (fm_tab1 (fm_RB f))) && (fm_fracs (fm_RB f) (j + 2) 0 && fm_all b (fm_zb (fm_RB f) (j + 2)))) = true := fm_bI_t c0
            refine lv_aload_n hx hb d_MO_areTablesRight_46 rfl (lv_at hl 0 rfl) ?_
            refine lv_iload_n hx hb d_MO_areTablesRight_47 rfl (lv_at hl 2 rfl) ?_
            refine lv_iconst (v := nI (0)) hx hb d_MO_areTablesRight_48 (by decide) ?_
            refine lv_iload_n hx hb d_MO_areTablesRight_49 rfl (lv_at hl 3 rfl) ?_
            refine fm_cs S (c_MO_at l dC dI fa cB f (j + 2) 0 b (by omega) (hq) (by omega) (by omega)) rfl rfl k_MO_at q_3_184 ⟨Nat.le_of_ble_eq_true rfl, Nat.le_of_ble_eq_true rfl⟩ (hP.sub [0] rfl) (hK.sub [0] rfl) rfl hl.1 rfl (Nat.le_of_ble_eq_true rfl) ⟨Nat.zero_le _, Nat.zero_le _⟩ d_MO_areTablesRight_50 ?_
            have f0_50 := fm_AT_lt (fm_RB_lt f) (j + 2) 0 b
            refine lv_if_ne (tgt := 60) hx hb d_MO_areTablesRight_53 (by decide) (fun c0 => ?_) (fun c0 => ?_)
            · have c_53 : ¬ (fm_AT (fm_RB f) (j + 2) 0 b = 0) := fun z => c0 ((nI_eq (a := fm_AT (fm_RB f) (j + 2) 0 b) (b := 0) (by omega) (by omega)).mpr z)
              refine lv_iconst (v := nI (0)) hx hb d_MO_areTablesRight_60 (by decide) ?_
              refine fm_tw (z := (fm_bI ((fm_fracs (fm_RB f) 7 0 && fm_all j (fm_tab1 (fm_RB f))) && (fm_fracs (fm_RB f) (j + 2) 0 && fm_all (b + 1) (fm_zb (fm_RB f) (j + 2)))))) (by first | exact fm_iF1 c_43 | exact fm_iT c_43 (decide_eq_true c_53) | exact fm_iF2 (decide_eq_false c_53)) ?_
              refine lv_istore_n (lv' := [(1, .int (fm_bI ((fm_fracs (fm_RB f) 7 0 && fm_all j (fm_tab1 (fm_RB f))) && (fm_fracs (fm_RB f) (j + 2) 0 && fm_all (b + 1) (fm_zb (fm_RB f) (j + 2)))))), (0, .ref fa), (2, .int (nI (j + 2))), (3, .int (nI (b)))]) hx hb d_MO_areTablesRight_61 rfl hl (by decide) rfl (fun ls hl => ?_)
              refine lv_iinc (v := nI (b + 1)) (lv' := [(3, .int (nI (b + 1))), (1, .int (fm_bI ((fm_fracs (fm_RB f) 7 0 && fm_all j (fm_tab1 (fm_RB f))) && (fm_fracs (fm_RB f) (j + 2) 0 && fm_all (b + 1) (fm_zb (fm_RB f) (j + 2)))))), (0, .ref fa), (2, .int (nI (j + 2)))]) hx hb d_MO_areTablesRight_62 hl (k := 3) rfl (nI_1 _) (by decide) rfl (fun ls hl => ?_)
              refine lv_goto (tgt := 37) hx hb d_MO_areTablesRight_65 (by decide) ?_
              exact ih_37 (b + 1) ls (by omega) (by omega) (lv_sub hl [2, 1, 3, 0] rfl)
            · have c_53 : fm_AT (fm_RB f) (j + 2) 0 b = 0 := (nI_eq (a := fm_AT (fm_RB f) (j + 2) 0 b) (b := 0) (by omega) (by omega)).mp c0
              refine lv_iconst (v := nI (1)) hx hb d_MO_areTablesRight_56 (by decide) ?_
              refine lv_goto (tgt := 61) hx hb d_MO_areTablesRight_57 (by decide) ?_
              refine fm_tw (z := (fm_bI ((fm_fracs (fm_RB f) 7 0 && fm_all j (fm_tab1 (fm_RB f))) && (fm_fracs (fm_RB f) (j + 2) 0 && fm_all (b + 1) (fm_zb (fm_RB f) (j + 2)))))) (by first | exact fm_iF1 c_43 | exact fm_iT c_43 (decide_eq_true c_53) | exact fm_iF2 (decide_eq_false c_53)) ?_
              refine lv_istore_n (lv' := [(1, .int (fm_bI ((fm_fracs (fm_RB f) 7 0 && fm_all j (fm_tab1 (fm_RB f))) && (fm_fracs (fm_RB f) (j + 2) 0 && fm_all (b + 1) (fm_zb (fm_RB f) (j + 2)))))), (0, .ref fa), (2, .int (nI (j + 2))), (3, .int (nI (b)))]) hx hb d_MO_areTablesRight_61 rfl hl (by decide) rfl (fun ls hl => ?_)
              refine lv_iinc (v := nI (b + 1)) (lv' := [(3, .int (nI (b + 1))), (1, .int (fm_bI ((fm_fracs (fm_RB f) 7 0 && fm_all j (fm_tab1 (fm_RB f))) && (fm_fracs (fm_RB f) (j + 2) 0 && fm_all (b + 1) (fm_zb (fm_RB f) (j + 2)))))), (0, .ref fa), (2, .int (nI (j + 2)))]) hx hb d_MO_areTablesRight_62 hl (k := 3) rfl (nI_1 _) (by decide) rfl (fun ls hl => ?_)
              refine lv_goto (tgt := 37) hx hb d_MO_areTablesRight_65 (by decide) ?_
              exact ih_37 (b + 1) ls (by omega) (by omega) (lv_sub hl [2, 1, 3, 0] rfl)
theorem d_MO_isWordRight_0 : decode b_MO_isWordRight 0 = .ok (.aload_n 0, 1) := by decide +kernel
theorem d_MO_isWordRight_1 : decode b_MO_isWordRight 1 = .ok (.bipush 6, 2) := by decide +kernel
theorem d_MO_isWordRight_3 : decode b_MO_isWordRight 3 = .ok (.iload_n 1, 1) := by decide +kernel
theorem d_MO_isWordRight_4 : decode b_MO_isWordRight 4 = .ok (.iconst 0, 1) := by decide +kernel
theorem d_MO_isWordRight_5 : decode b_MO_isWordRight 5 = .ok (.invokestatic 43, 3) := by decide +kernel
theorem d_MO_isWordRight_8 : decode b_MO_isWordRight 8 = .ok (.istore_n 2, 1) := by decide +kernel
theorem d_MO_isWordRight_9 : decode b_MO_isWordRight 9 = .ok (.iload_n 2, 1) := by decide +kernel
theorem d_MO_isWordRight_10 : decode b_MO_isWordRight 10 = .ok (.sipush 128, 3) := by decide +kernel
theorem d_MO_isWordRight_13 : decode b_MO_isWordRight 13 = .ok (.if_icmp .le 23, 3) := by decide +kernel
theorem d_MO_isWordRight_16 : decode b_MO_isWordRight 16 = .ok (.aload_n 0, 1) := by decide +kernel
theorem d_MO_isWordRight_17 : decode b_MO_isWordRight 17 = .ok (.iload_n 1, 1) := by decide +kernel
theorem d_MO_isWordRight_18 : decode b_MO_isWordRight 18 = .ok (.invokestatic 47, 3) := by decide +kernel
theorem d_MO_isWordRight_21 : decode b_MO_isWordRight 21 = .ok (.aload_n 0, 1) := by decide +kernel
theorem d_MO_isWordRight_22 : decode b_MO_isWordRight 22 = .ok (.bipush 6, 2) := by decide +kernel
theorem d_MO_isWordRight_24 : decode b_MO_isWordRight 24 = .ok (.invokestatic 37, 3) := by decide +kernel
theorem d_MO_isWordRight_27 : decode b_MO_isWordRight 27 = .ok (.if_icmp .ge 7, 3) := by decide +kernel
theorem d_MO_isWordRight_30 : decode b_MO_isWordRight 30 = .ok (.iconst 1, 1) := by decide +kernel
theorem d_MO_isWordRight_31 : decode b_MO_isWordRight 31 = .ok (.goto 4, 3) := by decide +kernel
theorem d_MO_isWordRight_34 : decode b_MO_isWordRight 34 = .ok (.iconst 0, 1) := by decide +kernel
theorem d_MO_isWordRight_35 : decode b_MO_isWordRight 35 = .ok (.ireturn, 1) := by decide +kernel
theorem d_MO_isWordRight_36 : decode b_MO_isWordRight 36 = .ok (.aload_n 0, 1) := by decide +kernel
theorem d_MO_isWordRight_37 : decode b_MO_isWordRight 37 = .ok (.bipush 6, 2) := by decide +kernel
theorem d_MO_isWordRight_39 : decode b_MO_isWordRight 39 = .ok (.iload_n 1, 1) := by decide +kernel
theorem d_MO_isWordRight_40 : decode b_MO_isWordRight 40 = .ok (.iconst 1, 1) := by decide +kernel
theorem d_MO_isWordRight_41 : decode b_MO_isWordRight 41 = .ok (.invokestatic 43, 3) := by decide +kernel
theorem d_MO_isWordRight_44 : decode b_MO_isWordRight 44 = .ok (.istore_n 3, 1) := by decide +kernel
theorem d_MO_isWordRight_45 : decode b_MO_isWordRight 45 = .ok (.aload_n 0, 1) := by decide +kernel
theorem d_MO_isWordRight_46 : decode b_MO_isWordRight 46 = .ok (.bipush 6, 2) := by decide +kernel
theorem d_MO_isWordRight_48 : decode b_MO_isWordRight 48 = .ok (.iload_n 1, 1) := by decide +kernel
theorem d_MO_isWordRight_49 : decode b_MO_isWordRight 49 = .ok (.iconst 2, 1) := by decide +kernel
theorem d_MO_isWordRight_50 : decode b_MO_isWordRight 50 = .ok (.invokestatic 43, 3) := by decide +kernel
theorem d_MO_isWordRight_53 : decode b_MO_isWordRight 53 = .ok (.istore 4, 2) := by decide +kernel
theorem d_MO_isWordRight_55 : decode b_MO_isWordRight 55 = .ok (.aload_n 0, 1) := by decide +kernel
theorem d_MO_isWordRight_56 : decode b_MO_isWordRight 56 = .ok (.bipush 6, 2) := by decide +kernel
theorem d_MO_isWordRight_58 : decode b_MO_isWordRight 58 = .ok (.iload_n 1, 1) := by decide +kernel
theorem d_MO_isWordRight_59 : decode b_MO_isWordRight 59 = .ok (.iconst 3, 1) := by decide +kernel
theorem d_MO_isWordRight_60 : decode b_MO_isWordRight 60 = .ok (.invokestatic 43, 3) := by decide +kernel
theorem d_MO_isWordRight_63 : decode b_MO_isWordRight 63 = .ok (.istore 5, 2) := by decide +kernel
theorem d_MO_isWordRight_65 : decode b_MO_isWordRight 65 = .ok (.aload_n 0, 1) := by decide +kernel
theorem d_MO_isWordRight_66 : decode b_MO_isWordRight 66 = .ok (.iload_n 3, 1) := by decide +kernel
theorem d_MO_isWordRight_67 : decode b_MO_isWordRight 67 = .ok (.invokestatic 53, 3) := by decide +kernel
theorem d_MO_isWordRight_70 : decode b_MO_isWordRight 70 = .ok (.ifCond .ne 11, 3) := by decide +kernel
theorem d_MO_isWordRight_73 : decode b_MO_isWordRight 73 = .ok (.iload_n 3, 1) := by decide +kernel
theorem d_MO_isWordRight_74 : decode b_MO_isWordRight 74 = .ok (.aload_n 0, 1) := by decide +kernel
theorem d_MO_isWordRight_75 : decode b_MO_isWordRight 75 = .ok (.invokestatic 67, 3) := by decide +kernel
theorem d_MO_isWordRight_78 : decode b_MO_isWordRight 78 = .ok (.if_icmp .ne 7, 3) := by decide +kernel
theorem d_MO_isWordRight_81 : decode b_MO_isWordRight 81 = .ok (.iconst 1, 1) := by decide +kernel
theorem d_MO_isWordRight_82 : decode b_MO_isWordRight 82 = .ok (.goto 4, 3) := by decide +kernel
theorem d_MO_isWordRight_85 : decode b_MO_isWordRight 85 = .ok (.iconst 0, 1) := by decide +kernel
theorem d_MO_isWordRight_86 : decode b_MO_isWordRight 86 = .ok (.istore 6, 2) := by decide +kernel
theorem d_MO_isWordRight_88 : decode b_MO_isWordRight 88 = .ok (.iload 6, 2) := by decide +kernel
theorem d_MO_isWordRight_90 : decode b_MO_isWordRight 90 = .ok (.ifCond .eq 49, 3) := by decide +kernel
theorem d_MO_isWordRight_93 : decode b_MO_isWordRight 93 = .ok (.iload 4, 2) := by decide +kernel
theorem d_MO_isWordRight_95 : decode b_MO_isWordRight 95 = .ok (.sipush 128, 3) := by decide +kernel
theorem d_MO_isWordRight_98 : decode b_MO_isWordRight 98 = .ok (.if_icmp .ge 15, 3) := by decide +kernel
theorem d_MO_isWordRight_101 : decode b_MO_isWordRight 101 = .ok (.aload_n 0, 1) := by decide +kernel
theorem d_MO_isWordRight_102 : decode b_MO_isWordRight 102 = .ok (.iload 5, 2) := by decide +kernel
theorem d_MO_isWordRight_104 : decode b_MO_isWordRight 104 = .ok (.invokestatic 53, 3) := by decide +kernel
theorem d_MO_isWordRight_107 : decode b_MO_isWordRight 107 = .ok (.ifCond .eq 32, 3) := by decide +kernel
theorem d_MO_isWordRight_110 : decode b_MO_isWordRight 110 = .ok (.goto 25, 3) := by decide +kernel
theorem d_MO_isWordRight_113 : decode b_MO_isWordRight 113 = .ok (.sipush 256, 3) := by decide +kernel
theorem d_MO_isWordRight_116 : decode b_MO_isWordRight 116 = .ok (.iload 4, 2) := by decide +kernel
theorem d_MO_isWordRight_118 : decode b_MO_isWordRight 118 = .ok (.sipush 128, 3) := by decide +kernel
theorem d_MO_isWordRight_121 : decode b_MO_isWordRight 121 = .ok (.isub, 1) := by decide +kernel
theorem d_MO_isWordRight_122 : decode b_MO_isWordRight 122 = .ok (.imul, 1) := by decide +kernel
theorem d_MO_isWordRight_123 : decode b_MO_isWordRight 123 = .ok (.iload 5, 2) := by decide +kernel
theorem d_MO_isWordRight_125 : decode b_MO_isWordRight 125 = .ok (.iadd, 1) := by decide +kernel
theorem d_MO_isWordRight_126 : decode b_MO_isWordRight 126 = .ok (.aload_n 0, 1) := by decide +kernel
theorem d_MO_isWordRight_127 : decode b_MO_isWordRight 127 = .ok (.bipush 7, 2) := by decide +kernel
theorem d_MO_isWordRight_129 : decode b_MO_isWordRight 129 = .ok (.invokestatic 37, 3) := by decide +kernel
theorem d_MO_isWordRight_132 : decode b_MO_isWordRight 132 = .ok (.if_icmp .ge 7, 3) := by decide +kernel
theorem d_MO_isWordRight_135 : decode b_MO_isWordRight 135 = .ok (.iconst 1, 1) := by decide +kernel
theorem d_MO_isWordRight_136 : decode b_MO_isWordRight 136 = .ok (.goto 4, 3) := by decide +kernel
theorem d_MO_isWordRight_139 : decode b_MO_isWordRight 139 = .ok (.iconst 0, 1) := by decide +kernel
theorem d_MO_isWordRight_140 : decode b_MO_isWordRight 140 = .ok (.istore 6, 2) := by decide +kernel
theorem d_MO_isWordRight_142 : decode b_MO_isWordRight 142 = .ok (.iload 6, 2) := by decide +kernel
theorem d_MO_isWordRight_144 : decode b_MO_isWordRight 144 = .ok (.ifCond .eq 28, 3) := by decide +kernel
theorem d_MO_isWordRight_147 : decode b_MO_isWordRight 147 = .ok (.iload_n 2, 1) := by decide +kernel
theorem d_MO_isWordRight_148 : decode b_MO_isWordRight 148 = .ok (.sipush 128, 3) := by decide +kernel
theorem d_MO_isWordRight_151 : decode b_MO_isWordRight 151 = .ok (.if_icmp .eq 17, 3) := by decide +kernel
theorem d_MO_isWordRight_154 : decode b_MO_isWordRight 154 = .ok (.iload_n 1, 1) := by decide +kernel
theorem d_MO_isWordRight_155 : decode b_MO_isWordRight 155 = .ok (.iload_n 2, 1) := by decide +kernel
theorem d_MO_isWordRight_156 : decode b_MO_isWordRight 156 = .ok (.iadd, 1) := by decide +kernel
theorem d_MO_isWordRight_157 : decode b_MO_isWordRight 157 = .ok (.iconst 1, 1) := by decide +kernel
theorem d_MO_isWordRight_158 : decode b_MO_isWordRight 158 = .ok (.iadd, 1) := by decide +kernel
theorem d_MO_isWordRight_159 : decode b_MO_isWordRight 159 = .ok (.aload_n 0, 1) := by decide +kernel
theorem d_MO_isWordRight_160 : decode b_MO_isWordRight 160 = .ok (.bipush 6, 2) := by decide +kernel
theorem d_MO_isWordRight_162 : decode b_MO_isWordRight 162 = .ok (.invokestatic 37, 3) := by decide +kernel
theorem d_MO_isWordRight_165 : decode b_MO_isWordRight 165 = .ok (.if_icmp .ge 7, 3) := by decide +kernel
theorem d_MO_isWordRight_168 : decode b_MO_isWordRight 168 = .ok (.iconst 1, 1) := by decide +kernel
theorem d_MO_isWordRight_169 : decode b_MO_isWordRight 169 = .ok (.goto 4, 3) := by decide +kernel
theorem d_MO_isWordRight_172 : decode b_MO_isWordRight 172 = .ok (.iconst 0, 1) := by decide +kernel
theorem d_MO_isWordRight_173 : decode b_MO_isWordRight 173 = .ok (.ireturn, 1) := by decide +kernel
set_option maxHeartbeats 4000000 in
set_option maxRecDepth 100000 in
theorem c_MO_isWordRight (l : Launch) (dC : Nat → ClassId) (dI : Nat → Nat → Nat) (fa : Nat) (cB : ClassId) (f : Nat → Int32) (k : Nat) (hL : fm_Len (fm_RB f)) (hk : k < fm_WD (fm_RB f) 6) : fm_M l (dC, dI) y_MO_isWordRight w_MO_isWordRight ({ frames := 5, cells := 0, slots := 0, locals := 109 }) [.ref fa, .int (nI (k))] [(fa, .inl (cB, 8192, .inl (f)))] [(cB, .byte)] ((fm_bI (fm_word1 (fm_RB f) k))) := by
  refine Met.ofW (cc := b_MO_isWordRight) (maxL := 7) (ret := (some .boolean)) (by decide) rfl ?_
  intro pg ev s m args below meth cd s₁ BD hml hv
  obtain ⟨rfl, hP, hK⟩ := hv
  have hx := BD.exec
  have hb := BD.bytes
  have hr := BD.returns
  have hts := atoms_spec (ws := w_MO_isWordRight) BD.pre
  have ht : ∀ w ∈ fm_T, w.before _ s = true := fun w h => hts w (List.mem_cons_of_mem _ h)
  have hown : s.vm.findClass R_MO = some m.cls := findClass_of_methodNamed BD.named
  have hlocks := BD.notSynchronized
  have S : CallFix pg m cd b_MO_isWordRight 7 s _ w_MO_isWordRight R_MO := ⟨hx, hb, hml, hown, hts⟩
  have hl := lv_entry ([.ref fa, .int (nI (k))]) (n := 7) (Nat.le_of_ble_eq_true rfl)
  rw [lg_entry_eq]
  generalize (lg_sl ([.ref fa, .int (nI (k))]) ++ List.replicate (7 - (lg_sl ([.ref fa, .int (nI (k))])).length) Slot.unset).toArray = ls at hl ⊢
  have hl : lv_has ls 7 [(0, .ref fa), (1, .int (nI (k)))] := hl
  obtain ⟨-, hq, h3, h10⟩ := id hL
  have hin := fm_pin hL (by decide : 6 < 10) hk
  refine lv_aload_n hx hb d_MO_isWordRight_0 rfl (lv_at hl 0 rfl) ?_
  refine lv_bipush (v := nI (6)) hx hb d_MO_isWordRight_1 (by decide) ?_
  refine lv_iload_n hx hb d_MO_isWordRight_3 rfl (lv_at hl 1 rfl) ?_
  refine lv_iconst (v := nI (0)) hx hb d_MO_isWordRight_4 (by decide) ?_
  refine fm_cs S (c_MO_at l dC dI fa cB f 6 k 0 (by omega) (hq) (by omega) (by omega)) rfl rfl k_MO_at q_3_184 ⟨Nat.le_of_ble_eq_true rfl, Nat.le_of_ble_eq_true rfl⟩ (hP.sub [0] rfl) (hK.sub [0] rfl) rfl hl.1 rfl (Nat.le_of_ble_eq_true rfl) ⟨Nat.zero_le _, Nat.zero_le _⟩ d_MO_isWordRight_5 ?_
  have f0_5 := fm_AT_lt (fm_RB_lt f) 6 k 0
  refine lv_istore_n (lv' := [(2, .int (nI (fm_AT (fm_RB f) 6 k 0))), (0, .ref fa), (1, .int (nI (k)))]) hx hb d_MO_isWordRight_8 rfl hl (by decide) rfl (fun ls hl => ?_)
  refine lv_iload_n hx hb d_MO_isWordRight_9 rfl (lv_at hl 0 rfl) ?_
  refine lv_sipush (v := nI (128)) hx hb d_MO_isWordRight_10 (by decide) ?_
  refine lv_icmp_le (tgt := 36) hx hb d_MO_isWordRight_13 (by decide) (fun c0 => ?_) (fun c0 => ?_)
  · have c_13 : fm_AT (fm_RB f) 6 k 0 ≤ 128 := (nI_leI (a := fm_AT (fm_RB f) 6 k 0) (b := 128) (by omega) (by omega)).mp c0
    refine lv_aload_n hx hb d_MO_isWordRight_36 rfl (lv_at hl 1 rfl) ?_
    refine lv_bipush (v := nI (6)) hx hb d_MO_isWordRight_37 (by decide) ?_
    refine lv_iload_n hx hb d_MO_isWordRight_39 rfl (lv_at hl 2 rfl) ?_
    refine lv_iconst (v := nI (1)) hx hb d_MO_isWordRight_40 (by decide) ?_
    refine fm_cs S (c_MO_at l dC dI fa cB f 6 k 1 (by omega) (hq) (by omega) (by omega)) rfl rfl k_MO_at q_3_184 ⟨Nat.le_of_ble_eq_true rfl, Nat.le_of_ble_eq_true rfl⟩ (hP.sub [0] rfl) (hK.sub [0] rfl) rfl hl.1 rfl (Nat.le_of_ble_eq_true rfl) ⟨Nat.zero_le _, Nat.zero_le _⟩ d_MO_isWordRight_41 ?_
    have f0_41 := fm_AT_lt (fm_RB_lt f) 6 k 1
    refine lv_istore_n (lv' := [(3, .int (nI (fm_AT (fm_RB f) 6 k 1))), (2, .int (nI (fm_AT (fm_RB f) 6 k 0))), (0, .ref fa), (1, .int (nI (k)))]) hx hb d_MO_isWordRight_44 rfl hl (by decide) rfl (fun ls hl => ?_)
    refine lv_aload_n hx hb d_MO_isWordRight_45 rfl (lv_at hl 2 rfl) ?_
    refine lv_bipush (v := nI (6)) hx hb d_MO_isWordRight_46 (by decide) ?_
    refine lv_iload_n hx hb d_MO_isWordRight_48 rfl (lv_at hl 3 rfl) ?_
    refine lv_iconst (v := nI (2)) hx hb d_MO_isWordRight_49 (by decide) ?_
    refine fm_cs S (c_MO_at l dC dI fa cB f 6 k 2 (by omega) (hq) (by omega) (by omega)) rfl rfl k_MO_at q_3_184 ⟨Nat.le_of_ble_eq_true rfl, Nat.le_of_ble_eq_true rfl⟩ (hP.sub [0] rfl) (hK.sub [0] rfl) rfl hl.1 rfl (Nat.le_of_ble_eq_true rfl) ⟨Nat.zero_le _, Nat.zero_le _⟩ d_MO_isWordRight_50 ?_
    have f0_50 := fm_AT_lt (fm_RB_lt f) 6 k 2
    refine lv_istore (lv' := [(4, .int (nI (fm_AT (fm_RB f) 6 k 2))), (3, .int (nI (fm_AT (fm_RB f) 6 k 1))), (2, .int (nI (fm_AT (fm_RB f) 6 k 0))), (0, .ref fa), (1, .int (nI (k)))]) hx hb d_MO_isWordRight_53 hl (by decide) rfl (fun ls hl => ?_)
    refine lv_aload_n hx hb d_MO_isWordRight_55 rfl (lv_at hl 3 rfl) ?_
    refine lv_bipush (v := nI (6)) hx hb d_MO_isWordRight_56 (by decide) ?_
    refine lv_iload_n hx hb d_MO_isWordRight_58 rfl (lv_at hl 4 rfl) ?_
    refine lv_iconst (v := nI (3)) hx hb d_MO_isWordRight_59 (by decide) ?_
    refine fm_cs S (c_MO_at l dC dI fa cB f 6 k 3 (by omega) (hq) (by omega) (by omega)) rfl rfl k_MO_at q_3_184 ⟨Nat.le_of_ble_eq_true rfl, Nat.le_of_ble_eq_true rfl⟩ (hP.sub [0] rfl) (hK.sub [0] rfl) rfl hl.1 rfl (Nat.le_of_ble_eq_true rfl) ⟨Nat.zero_le _, Nat.zero_le _⟩ d_MO_isWordRight_60 ?_
    have f0_60 := fm_AT_lt (fm_RB_lt f) 6 k 3
    refine lv_istore (lv' := [(5, .int (nI (fm_AT (fm_RB f) 6 k 3))), (4, .int (nI (fm_AT (fm_RB f) 6 k 2))), (3, .int (nI (fm_AT (fm_RB f) 6 k 1))), (2, .int (nI (fm_AT (fm_RB f) 6 k 0))), (0, .ref fa), (1, .int (nI (k)))]) hx hb d_MO_isWordRight_63 hl (by decide) rfl (fun ls hl => ?_)
    refine lv_aload_n hx hb d_MO_isWordRight_65 rfl (lv_at hl 4 rfl) ?_
    refine lv_iload_n hx hb d_MO_isWordRight_66 rfl (lv_at hl 2 rfl) ?_
    refine fm_cs S (c_MO_isThereN l dC dI fa cB f (fm_AT (fm_RB f) 6 k 1) (by omega) (hL)) rfl rfl k_MO_isThere q_3_194 ⟨Nat.le_of_ble_eq_true rfl, Nat.le_of_ble_eq_true rfl⟩ (hP.sub [0] rfl) (hK.sub [0] rfl) rfl hl.1 rfl (Nat.le_of_ble_eq_true rfl) ⟨Nat.zero_le _, Nat.zero_le _⟩ d_MO_isWordRight_67 ?_
    refine lv_if_ne (tgt := 81) hx hb d_MO_isWordRight_70 (by decide) (fun c0 => ?_) (fun c0 => ?_)
    · have c_70 : (fm_th (fm_RB f) (fm_AT (fm_RB f) 6 k 1)) = true := fm_bI_t c0
      refine lv_iconst (v := nI (1)) hx hb d_MO_isWordRight_81 (by decide) ?_
      refine lv_goto (tgt := 86) hx hb d_MO_isWordRight_82 (by decide) ?_
      refine fm_tw (z := (fm_bI (fm_w1 (fm_RB f) k))) (by first | (refine fm_bI_1 ?_; rw [fm_w1, c_70]; rfl) | (refine fm_bI_1 ?_; rw [fm_w1, decide_eq_true c_78, Bool.or_true]) | (refine fm_bI_0 ?_; rw [fm_w1, c_70, decide_eq_false c_78]; rfl)) ?_
      refine lv_istore (lv' := [(6, .int (fm_bI (fm_w1 (fm_RB f) k))), (5, .int (nI (fm_AT (fm_RB f) 6 k 3))), (4, .int (nI (fm_AT (fm_RB f) 6 k 2))), (3, .int (nI (fm_AT (fm_RB f) 6 k 1))), (2, .int (nI (fm_AT (fm_RB f) 6 k 0))), (0, .ref fa), (1, .int (nI (k)))]) hx hb d_MO_isWordRight_86 hl (by decide) rfl (fun ls hl => ?_)
      refine lv_iload hx hb d_MO_isWordRight_88 (lv_at hl 0 rfl) ?_
      refine lv_if_eq (tgt := 139) hx hb d_MO_isWordRight_90 (by decide) (fun c0 => ?_) (fun c0 => ?_)
      · have c_90 : (fm_w1 (fm_RB f) k) = false := fm_bI_f c0
        refine lv_iconst (v := nI (0)) hx hb d_MO_isWordRight_139 (by decide) ?_
        refine fm_tw (z := (fm_bI (fm_w1 (fm_RB f) k && fm_w2 (fm_RB f) k))) (by first | exact fm_cF1 c_90 | exact fm_cT c_90 (fm_w2_1 c_98 c_107) | exact fm_cF2 (fm_w2_1 c_98 c_107) | exact fm_cT c_90 (fm_w2_t c_98 c_132) | exact fm_cF2 (fm_w2_f c_98 c_132)) ?_
        refine lv_istore (lv' := [(6, .int (fm_bI (fm_w1 (fm_RB f) k && fm_w2 (fm_RB f) k))), (5, .int (nI (fm_AT (fm_RB f) 6 k 3))), (4, .int (nI (fm_AT (fm_RB f) 6 k 2))), (3, .int (nI (fm_AT (fm_RB f) 6 k 1))), (2, .int (nI (fm_AT (fm_RB f) 6 k 0))), (0, .ref fa), (1, .int (nI (k)))]) hx hb d_MO_isWordRight_140 hl (by decide) rfl (fun ls hl => ?_)
        refine lv_iload hx hb d_MO_isWordRight_142 (lv_at hl 0 rfl) ?_
        refine lv_if_eq (tgt := 172) hx hb d_MO_isWordRight_144 (by decide) (fun c0 => ?_) (fun c0 => ?_)
        · have c_144 : (fm_w1 (fm_RB f) k && fm_w2 (fm_RB f) k) = false := fm_bI_f c0
          refine lv_iconst (v := nI (0)) hx hb d_MO_isWordRight_172 (by decide) ?_
          exact W.zret (ty := .boolean) hx hb hr (rfl) (fun t ht hW => ⟨_, rfl, by rw [fm_word1, if_neg (Nat.not_lt.mpr c_13)]; first | exact fm_cF1 c_144 | exact fm_cT c_144 (by rw [fm_w3, decide_eq_true c_151]; rfl) | exact fm_cT c_144 (by rw [fm_w3, decide_eq_true (Nat.lt_of_not_le c_165), Bool.or_true]) | exact fm_cF2 (by rw [fm_w3, decide_eq_false c_151, decide_eq_false (Nat.not_lt.mpr c_165)]; rfl), ht⟩) (fun q hq => by cases hq) d_MO_isWordRight_173
        · have c_144 : (fm_w1 (fm_RB f) k && fm_w2 (fm_RB f) k) = true := fm_bI_t c0
          refine lv_iload_n hx hb d_MO_isWordRight_147 rfl (lv_at hl 4 rfl) ?_
          refine lv_sipush (v := nI (128)) hx hb d_MO_isWordRight_148 (by decide) ?_
          refine lv_icmp_eq (tgt := 168) hx hb d_MO_isWordRight_151 (by decide) (fun c0 => ?_) (fun c0 => ?_)
          · have c_151 : fm_AT (fm_RB f) 6 k 0 = 128 := (nI_eq (a := fm_AT (fm_RB f) 6 k 0) (b := 128) (by omega) (by omega)).mp c0
            refine lv_iconst (v := nI (1)) hx hb d_MO_isWordRight_168 (by decide) ?_
            refine lv_goto (tgt := 173) hx hb d_MO_isWordRight_169 (by decide) ?_
            exact W.zret (ty := .boolean) hx hb hr (rfl) (fun t ht hW => ⟨_, rfl, by rw [fm_word1, if_neg (Nat.not_lt.mpr c_13)]; first | exact fm_cF1 c_144 | exact fm_cT c_144 (by rw [fm_w3, decide_eq_true c_151]; rfl) | exact fm_cT c_144 (by rw [fm_w3, decide_eq_true (Nat.lt_of_not_le c_165), Bool.or_true]) | exact fm_cF2 (by rw [fm_w3, decide_eq_false c_151, decide_eq_false (Nat.not_lt.mpr c_165)]; rfl), ht⟩) (fun q hq => by cases hq) d_MO_isWordRight_173
          · have c_151 : ¬ (fm_AT (fm_RB f) 6 k 0 = 128) := fun z => c0 ((nI_eq (a := fm_AT (fm_RB f) 6 k 0) (b := 128) (by omega) (by omega)).mpr z)
            refine lv_iload_n hx hb d_MO_isWordRight_154 rfl (lv_at hl 6 rfl) ?_
            refine lv_iload_n hx hb d_MO_isWordRight_155 rfl (lv_at hl 4 rfl) ?_
            refine lv_iadd hx hb d_MO_isWordRight_156 ?_
            refine fm_tw (z := nI (k + fm_AT (fm_RB f) 6 k 0)) (nI_add _ _) ?_
            refine lv_iconst (v := nI (1)) hx hb d_MO_isWordRight_157 (by decide) ?_
            refine lv_iadd hx hb d_MO_isWordRight_158 ?_
            refine fm_tw (z := nI (k + fm_AT (fm_RB f) 6 k 0 + 1)) (nI_add _ _) ?_
            refine lv_aload_n hx hb d_MO_isWordRight_159 rfl (lv_at hl 5 rfl) ?_
            refine lv_bipush (v := nI (6)) hx hb d_MO_isWordRight_160 (by decide) ?_
            refine fm_cs S (c_MO_words l dC dI fa cB f 6 (by omega) (fun _ => hq)) rfl rfl k_MO_words q_3_175 ⟨Nat.le_of_ble_eq_true rfl, Nat.le_of_ble_eq_true rfl⟩ (hP.sub [0] rfl) (hK.sub [0] rfl) rfl hl.1 rfl (Nat.le_of_ble_eq_true rfl) ⟨Nat.zero_le _, Nat.zero_le _⟩ d_MO_isWordRight_162 ?_
            have f0_162 := fm_WD_le (fm_RB_lt f) 6
            refine lv_icmp_ge (tgt := 172) hx hb d_MO_isWordRight_165 (by decide) (fun c0 => ?_) (fun c0 => ?_)
            · have c_165 : fm_WD (fm_RB f) 6 ≤ k + fm_AT (fm_RB f) 6 k 0 + 1 := (nI_leI (a := fm_WD (fm_RB f) 6) (b := k + fm_AT (fm_RB f) 6 k 0 + 1) (by omega) (by omega)).mp c0
              refine lv_iconst (v := nI (0)) hx hb d_MO_isWordRight_172 (by decide) ?_
              exact W.zret (ty := .boolean) hx hb hr (rfl) (fun t ht hW => ⟨_, rfl, by rw [fm_word1, if_neg (Nat.not_lt.mpr c_13)]; first | exact fm_cF1 c_144 | exact fm_cT c_144 (by rw [fm_w3, decide_eq_true c_151]; rfl) | exact fm_cT c_144 (by rw [fm_w3, decide_eq_true (Nat.lt_of_not_le c_165), Bool.or_true]) | exact fm_cF2 (by rw [fm_w3, decide_eq_false c_151, decide_eq_false (Nat.not_lt.mpr c_165)]; rfl), ht⟩) (fun q hq => by cases hq) d_MO_isWordRight_173
            · have c_165 : ¬ (fm_WD (fm_RB f) 6 ≤ k + fm_AT (fm_RB f) 6 k 0 + 1) := fun z => c0 ((nI_leI (a := fm_WD (fm_RB f) 6) (b := k + fm_AT (fm_RB f) 6 k 0 + 1) (by omega) (by omega)).mpr z)
              refine lv_iconst (v := nI (1)) hx hb d_MO_isWordRight_168 (by decide) ?_
              refine lv_goto (tgt := 173) hx hb d_MO_isWordRight_169 (by decide) ?_
              exact W.zret (ty := .boolean) hx hb hr (rfl) (fun t ht hW => ⟨_, rfl, by rw [fm_word1, if_neg (Nat.not_lt.mpr c_13)]; first | exact fm_cF1 c_144 | exact fm_cT c_144 (by rw [fm_w3, decide_eq_true c_151]; rfl) | exact fm_cT c_144 (by rw [fm_w3, decide_eq_true (Nat.lt_of_not_le c_165), Bool.or_true]) | exact fm_cF2 (by rw [fm_w3, decide_eq_false c_151, decide_eq_false (Nat.not_lt.mpr c_165)]; rfl), ht⟩) (fun q hq => by cases hq) d_MO_isWordRight_173
      · have c_90 : (fm_w1 (fm_RB f) k) = true := fm_bI_t c0
        refine lv_iload hx hb d_MO_isWordRight_93 (lv_at hl 2 rfl) ?_
        refine lv_sipush (v := nI (128)) hx hb d_MO_isWordRight_95 (by decide) ?_
        refine lv_icmp_ge (tgt := 113) hx hb d_MO_isWordRight_98 (by decide) (fun c0 => ?_) (fun c0 => ?_)
        · have c_98 : 128 ≤ fm_AT (fm_RB f) 6 k 2 := (nI_leI (a := 128) (b := fm_AT (fm_RB f) 6 k 2) (by omega) (by omega)).mp c0
          refine lv_sipush (v := nI (256)) hx hb d_MO_isWordRight_113 (by decide) ?_
          refine lv_iload hx hb d_MO_isWordRight_116 (lv_at hl 2 rfl) ?_
          refine lv_sipush (v := nI (128)) hx hb d_MO_isWordRight_118 (by decide) ?_
          refine lv_isub hx hb d_MO_isWordRight_121 ?_
          refine fm_tw (z := nI (fm_AT (fm_RB f) 6 k 2 - 128)) (pk_sub (by omega)) ?_
          refine lv_imul hx hb d_MO_isWordRight_122 ?_
          refine fm_tw (z := nI (256 * (fm_AT (fm_RB f) 6 k 2 - 128))) (pk_mul _ _) ?_
          refine lv_iload hx hb d_MO_isWordRight_123 (lv_at hl 1 rfl) ?_
          refine lv_iadd hx hb d_MO_isWordRight_125 ?_
          refine fm_tw (z := nI (256 * (fm_AT (fm_RB f) 6 k 2 - 128) + fm_AT (fm_RB f) 6 k 3)) (nI_add _ _) ?_
          refine lv_aload_n hx hb d_MO_isWordRight_126 rfl (lv_at hl 5 rfl) ?_
          refine lv_bipush (v := nI (7)) hx hb d_MO_isWordRight_127 (by decide) ?_
          refine fm_cs S (c_MO_words l dC dI fa cB f 7 (by omega) (fun _ => hq)) rfl rfl k_MO_words q_3_175 ⟨Nat.le_of_ble_eq_true rfl, Nat.le_of_ble_eq_true rfl⟩ (hP.sub [0] rfl) (hK.sub [0] rfl) rfl hl.1 rfl (Nat.le_of_ble_eq_true rfl) ⟨Nat.zero_le _, Nat.zero_le _⟩ d_MO_isWordRight_129 ?_
          have f0_129 := fm_WD_le (fm_RB_lt f) 7
          refine lv_icmp_ge (tgt := 139) hx hb d_MO_isWordRight_132 (by decide) (fun c0 => ?_) (fun c0 => ?_)
          · have c_132 : fm_WD (fm_RB f) 7 ≤ 256 * (fm_AT (fm_RB f) 6 k 2 - 128) + fm_AT (fm_RB f) 6 k 3 := (nI_leI (a := fm_WD (fm_RB f) 7) (b := 256 * (fm_AT (fm_RB f) 6 k 2 - 128) + fm_AT (fm_RB f) 6 k 3) (by omega) (by omega)).mp c0
            refine lv_iconst (v := nI (0)) hx hb d_MO_isWordRight_139 (by decide) ?_
            refine fm_tw (z := (fm_bI (fm_w1 (fm_RB f) k && fm_w2 (fm_RB f) k))) (by first | exact fm_cF1 c_90 | exact fm_cT c_90 (fm_w2_1 c_98 c_107) | exact fm_cF2 (fm_w2_1 c_98 c_107) | exact fm_cT c_90 (fm_w2_t c_98 c_132) | exact fm_cF2 (fm_w2_f c_98 c_132)) ?_
            refine lv_istore (lv' := [(6, .int (fm_bI (fm_w1 (fm_RB f) k && fm_w2 (fm_RB f) k))), (5, .int (nI (fm_AT (fm_RB f) 6 k 3))), (4, .int (nI (fm_AT (fm_RB f) 6 k 2))), (3, .int (nI (fm_AT (fm_RB f) 6 k 1))), (2, .int (nI (fm_AT (fm_RB f) 6 k 0))), (0, .ref fa), (1, .int (nI (k)))]) hx hb d_MO_isWordRight_140 hl (by decide) rfl (fun ls hl => ?_)
            refine lv_iload hx hb d_MO_isWordRight_142 (lv_at hl 0 rfl) ?_
            refine lv_if_eq (tgt := 172) hx hb d_MO_isWordRight_144 (by decide) (fun c0 => ?_) (fun c0 => ?_)
            · have c_144 : (fm_w1 (fm_RB f) k && fm_w2 (fm_RB f) k) = false := fm_bI_f c0
              refine lv_iconst (v := nI (0)) hx hb d_MO_isWordRight_172 (by decide) ?_
              exact W.zret (ty := .boolean) hx hb hr (rfl) (fun t ht hW => ⟨_, rfl, by rw [fm_word1, if_neg (Nat.not_lt.mpr c_13)]; first | exact fm_cF1 c_144 | exact fm_cT c_144 (by rw [fm_w3, decide_eq_true c_151]; rfl) | exact fm_cT c_144 (by rw [fm_w3, decide_eq_true (Nat.lt_of_not_le c_165), Bool.or_true]) | exact fm_cF2 (by rw [fm_w3, decide_eq_false c_151, decide_eq_false (Nat.not_lt.mpr c_165)]; rfl), ht⟩) (fun q hq => by cases hq) d_MO_isWordRight_173
            · have c_144 : (fm_w1 (fm_RB f) k && fm_w2 (fm_RB f) k) = true := fm_bI_t c0
              refine lv_iload_n hx hb d_MO_isWordRight_147 rfl (lv_at hl 4 rfl) ?_
              refine lv_sipush (v := nI (128)) hx hb d_MO_isWordRight_148 (by decide) ?_
              refine lv_icmp_eq (tgt := 168) hx hb d_MO_isWordRight_151 (by decide) (fun c0 => ?_) (fun c0 => ?_)
              · have c_151 : fm_AT (fm_RB f) 6 k 0 = 128 := (nI_eq (a := fm_AT (fm_RB f) 6 k 0) (b := 128) (by omega) (by omega)).mp c0
                refine lv_iconst (v := nI (1)) hx hb d_MO_isWordRight_168 (by decide) ?_
                refine lv_goto (tgt := 173) hx hb d_MO_isWordRight_169 (by decide) ?_
                exact W.zret (ty := .boolean) hx hb hr (rfl) (fun t ht hW => ⟨_, rfl, by rw [fm_word1, if_neg (Nat.not_lt.mpr c_13)]; first | exact fm_cF1 c_144 | exact fm_cT c_144 (by rw [fm_w3, decide_eq_true c_151]; rfl) | exact fm_cT c_144 (by rw [fm_w3, decide_eq_true (Nat.lt_of_not_le c_165), Bool.or_true]) | exact fm_cF2 (by rw [fm_w3, decide_eq_false c_151, decide_eq_false (Nat.not_lt.mpr c_165)]; rfl), ht⟩) (fun q hq => by cases hq) d_MO_isWordRight_173
              · have c_151 : ¬ (fm_AT (fm_RB f) 6 k 0 = 128) := fun z => c0 ((nI_eq (a := fm_AT (fm_RB f) 6 k 0) (b := 128) (by omega) (by omega)).mpr z)
                refine lv_iload_n hx hb d_MO_isWordRight_154 rfl (lv_at hl 6 rfl) ?_
                refine lv_iload_n hx hb d_MO_isWordRight_155 rfl (lv_at hl 4 rfl) ?_
                refine lv_iadd hx hb d_MO_isWordRight_156 ?_
                refine fm_tw (z := nI (k + fm_AT (fm_RB f) 6 k 0)) (nI_add _ _) ?_
                refine lv_iconst (v := nI (1)) hx hb d_MO_isWordRight_157 (by decide) ?_
                refine lv_iadd hx hb d_MO_isWordRight_158 ?_
                refine fm_tw (z := nI (k + fm_AT (fm_RB f) 6 k 0 + 1)) (nI_add _ _) ?_
                refine lv_aload_n hx hb d_MO_isWordRight_159 rfl (lv_at hl 5 rfl) ?_
                refine lv_bipush (v := nI (6)) hx hb d_MO_isWordRight_160 (by decide) ?_
                refine fm_cs S (c_MO_words l dC dI fa cB f 6 (by omega) (fun _ => hq)) rfl rfl k_MO_words q_3_175 ⟨Nat.le_of_ble_eq_true rfl, Nat.le_of_ble_eq_true rfl⟩ (hP.sub [0] rfl) (hK.sub [0] rfl) rfl hl.1 rfl (Nat.le_of_ble_eq_true rfl) ⟨Nat.zero_le _, Nat.zero_le _⟩ d_MO_isWordRight_162 ?_
                have f0_162 := fm_WD_le (fm_RB_lt f) 6
                refine lv_icmp_ge (tgt := 172) hx hb d_MO_isWordRight_165 (by decide) (fun c0 => ?_) (fun c0 => ?_)
                · have c_165 : fm_WD (fm_RB f) 6 ≤ k + fm_AT (fm_RB f) 6 k 0 + 1 := (nI_leI (a := fm_WD (fm_RB f) 6) (b := k + fm_AT (fm_RB f) 6 k 0 + 1) (by omega) (by omega)).mp c0
                  refine lv_iconst (v := nI (0)) hx hb d_MO_isWordRight_172 (by decide) ?_
                  exact W.zret (ty := .boolean) hx hb hr (rfl) (fun t ht hW => ⟨_, rfl, by rw [fm_word1, if_neg (Nat.not_lt.mpr c_13)]; first | exact fm_cF1 c_144 | exact fm_cT c_144 (by rw [fm_w3, decide_eq_true c_151]; rfl) | exact fm_cT c_144 (by rw [fm_w3, decide_eq_true (Nat.lt_of_not_le c_165), Bool.or_true]) | exact fm_cF2 (by rw [fm_w3, decide_eq_false c_151, decide_eq_false (Nat.not_lt.mpr c_165)]; rfl), ht⟩) (fun q hq => by cases hq) d_MO_isWordRight_173
                · have c_165 : ¬ (fm_WD (fm_RB f) 6 ≤ k + fm_AT (fm_RB f) 6 k 0 + 1) := fun z => c0 ((nI_leI (a := fm_WD (fm_RB f) 6) (b := k + fm_AT (fm_RB f) 6 k 0 + 1) (by omega) (by omega)).mpr z)
                  refine lv_iconst (v := nI (1)) hx hb d_MO_isWordRight_168 (by decide) ?_
                  refine lv_goto (tgt := 173) hx hb d_MO_isWordRight_169 (by decide) ?_
                  exact W.zret (ty := .boolean) hx hb hr (rfl) (fun t ht hW => ⟨_, rfl, by rw [fm_word1, if_neg (Nat.not_lt.mpr c_13)]; first | exact fm_cF1 c_144 | exact fm_cT c_144 (by rw [fm_w3, decide_eq_true c_151]; rfl) | exact fm_cT c_144 (by rw [fm_w3, decide_eq_true (Nat.lt_of_not_le c_165), Bool.or_true]) | exact fm_cF2 (by rw [fm_w3, decide_eq_false c_151, decide_eq_false (Nat.not_lt.mpr c_165)]; rfl), ht⟩) (fun q hq => by cases hq) d_MO_isWordRight_173
          · have c_132 : ¬ (fm_WD (fm_RB f) 7 ≤ 256 * (fm_AT (fm_RB f) 6 k 2 - 128) + fm_AT (fm_RB f) 6 k 3) := fun z => c0 ((nI_leI (a := fm_WD (fm_RB f) 7) (b := 256 * (fm_AT (fm_RB f) 6 k 2 - 128) + fm_AT (fm_RB f) 6 k 3) (by omega) (by omega)).mpr z)
            refine lv_iconst (v := nI (1)) hx hb d_MO_isWordRight_135 (by decide) ?_
            refine lv_goto (tgt := 140) hx hb d_MO_isWordRight_136 (by decide) ?_
            refine fm_tw (z := (fm_bI (fm_w1 (fm_RB f) k && fm_w2 (fm_RB f) k))) (by first | exact fm_cF1 c_90 | exact fm_cT c_90 (fm_w2_1 c_98 c_107) | exact fm_cF2 (fm_w2_1 c_98 c_107) | exact fm_cT c_90 (fm_w2_t c_98 c_132) | exact fm_cF2 (fm_w2_f c_98 c_132)) ?_
            refine lv_istore (lv' := [(6, .int (fm_bI (fm_w1 (fm_RB f) k && fm_w2 (fm_RB f) k))), (5, .int (nI (fm_AT (fm_RB f) 6 k 3))), (4, .int (nI (fm_AT (fm_RB f) 6 k 2))), (3, .int (nI (fm_AT (fm_RB f) 6 k 1))), (2, .int (nI (fm_AT (fm_RB f) 6 k 0))), (0, .ref fa), (1, .int (nI (k)))]) hx hb d_MO_isWordRight_140 hl (by decide) rfl (fun ls hl => ?_)
            refine lv_iload hx hb d_MO_isWordRight_142 (lv_at hl 0 rfl) ?_
            refine lv_if_eq (tgt := 172) hx hb d_MO_isWordRight_144 (by decide) (fun c0 => ?_) (fun c0 => ?_)
            · have c_144 : (fm_w1 (fm_RB f) k && fm_w2 (fm_RB f) k) = false := fm_bI_f c0
              refine lv_iconst (v := nI (0)) hx hb d_MO_isWordRight_172 (by decide) ?_
              exact W.zret (ty := .boolean) hx hb hr (rfl) (fun t ht hW => ⟨_, rfl, by rw [fm_word1, if_neg (Nat.not_lt.mpr c_13)]; first | exact fm_cF1 c_144 | exact fm_cT c_144 (by rw [fm_w3, decide_eq_true c_151]; rfl) | exact fm_cT c_144 (by rw [fm_w3, decide_eq_true (Nat.lt_of_not_le c_165), Bool.or_true]) | exact fm_cF2 (by rw [fm_w3, decide_eq_false c_151, decide_eq_false (Nat.not_lt.mpr c_165)]; rfl), ht⟩) (fun q hq => by cases hq) d_MO_isWordRight_173
            · have c_144 : (fm_w1 (fm_RB f) k && fm_w2 (fm_RB f) k) = true := fm_bI_t c0
              refine lv_iload_n hx hb d_MO_isWordRight_147 rfl (lv_at hl 4 rfl) ?_
              refine lv_sipush (v := nI (128)) hx hb d_MO_isWordRight_148 (by decide) ?_
              refine lv_icmp_eq (tgt := 168) hx hb d_MO_isWordRight_151 (by decide) (fun c0 => ?_) (fun c0 => ?_)
              · have c_151 : fm_AT (fm_RB f) 6 k 0 = 128 := (nI_eq (a := fm_AT (fm_RB f) 6 k 0) (b := 128) (by omega) (by omega)).mp c0
                refine lv_iconst (v := nI (1)) hx hb d_MO_isWordRight_168 (by decide) ?_
                refine lv_goto (tgt := 173) hx hb d_MO_isWordRight_169 (by decide) ?_
                exact W.zret (ty := .boolean) hx hb hr (rfl) (fun t ht hW => ⟨_, rfl, by rw [fm_word1, if_neg (Nat.not_lt.mpr c_13)]; first | exact fm_cF1 c_144 | exact fm_cT c_144 (by rw [fm_w3, decide_eq_true c_151]; rfl) | exact fm_cT c_144 (by rw [fm_w3, decide_eq_true (Nat.lt_of_not_le c_165), Bool.or_true]) | exact fm_cF2 (by rw [fm_w3, decide_eq_false c_151, decide_eq_false (Nat.not_lt.mpr c_165)]; rfl), ht⟩) (fun q hq => by cases hq) d_MO_isWordRight_173
              · have c_151 : ¬ (fm_AT (fm_RB f) 6 k 0 = 128) := fun z => c0 ((nI_eq (a := fm_AT (fm_RB f) 6 k 0) (b := 128) (by omega) (by omega)).mpr z)
                refine lv_iload_n hx hb d_MO_isWordRight_154 rfl (lv_at hl 6 rfl) ?_
                refine lv_iload_n hx hb d_MO_isWordRight_155 rfl (lv_at hl 4 rfl) ?_
                refine lv_iadd hx hb d_MO_isWordRight_156 ?_
                refine fm_tw (z := nI (k + fm_AT (fm_RB f) 6 k 0)) (nI_add _ _) ?_
                refine lv_iconst (v := nI (1)) hx hb d_MO_isWordRight_157 (by decide) ?_
                refine lv_iadd hx hb d_MO_isWordRight_158 ?_
                refine fm_tw (z := nI (k + fm_AT (fm_RB f) 6 k 0 + 1)) (nI_add _ _) ?_
                refine lv_aload_n hx hb d_MO_isWordRight_159 rfl (lv_at hl 5 rfl) ?_
                refine lv_bipush (v := nI (6)) hx hb d_MO_isWordRight_160 (by decide) ?_
                refine fm_cs S (c_MO_words l dC dI fa cB f 6 (by omega) (fun _ => hq)) rfl rfl k_MO_words q_3_175 ⟨Nat.le_of_ble_eq_true rfl, Nat.le_of_ble_eq_true rfl⟩ (hP.sub [0] rfl) (hK.sub [0] rfl) rfl hl.1 rfl (Nat.le_of_ble_eq_true rfl) ⟨Nat.zero_le _, Nat.zero_le _⟩ d_MO_isWordRight_162 ?_
                have f0_162 := fm_WD_le (fm_RB_lt f) 6
                refine lv_icmp_ge (tgt := 172) hx hb d_MO_isWordRight_165 (by decide) (fun c0 => ?_) (fun c0 => ?_)
                · have c_165 : fm_WD (fm_RB f) 6 ≤ k + fm_AT (fm_RB f) 6 k 0 + 1 := (nI_leI (a := fm_WD (fm_RB f) 6) (b := k + fm_AT (fm_RB f) 6 k 0 + 1) (by omega) (by omega)).mp c0
                  refine lv_iconst (v := nI (0)) hx hb d_MO_isWordRight_172 (by decide) ?_
                  exact W.zret (ty := .boolean) hx hb hr (rfl) (fun t ht hW => ⟨_, rfl, by rw [fm_word1, if_neg (Nat.not_lt.mpr c_13)]; first | exact fm_cF1 c_144 | exact fm_cT c_144 (by rw [fm_w3, decide_eq_true c_151]; rfl) | exact fm_cT c_144 (by rw [fm_w3, decide_eq_true (Nat.lt_of_not_le c_165), Bool.or_true]) | exact fm_cF2 (by rw [fm_w3, decide_eq_false c_151, decide_eq_false (Nat.not_lt.mpr c_165)]; rfl), ht⟩) (fun q hq => by cases hq) d_MO_isWordRight_173
                · have c_165 : ¬ (fm_WD (fm_RB f) 6 ≤ k + fm_AT (fm_RB f) 6 k 0 + 1) := fun z => c0 ((nI_leI (a := fm_WD (fm_RB f) 6) (b := k + fm_AT (fm_RB f) 6 k 0 + 1) (by omega) (by omega)).mpr z)
                  refine lv_iconst (v := nI (1)) hx hb d_MO_isWordRight_168 (by decide) ?_
                  refine lv_goto (tgt := 173) hx hb d_MO_isWordRight_169 (by decide) ?_
                  exact W.zret (ty := .boolean) hx hb hr (rfl) (fun t ht hW => ⟨_, rfl, by rw [fm_word1, if_neg (Nat.not_lt.mpr c_13)]; first | exact fm_cF1 c_144 | exact fm_cT c_144 (by rw [fm_w3, decide_eq_true c_151]; rfl) | exact fm_cT c_144 (by rw [fm_w3, decide_eq_true (Nat.lt_of_not_le c_165), Bool.or_true]) | exact fm_cF2 (by rw [fm_w3, decide_eq_false c_151, decide_eq_false (Nat.not_lt.mpr c_165)]; rfl), ht⟩) (fun q hq => by cases hq) d_MO_isWordRight_173
        · have c_98 : ¬ (128 ≤ fm_AT (fm_RB f) 6 k 2) := fun z => c0 ((nI_leI (a := 128) (b := fm_AT (fm_RB f) 6 k 2) (by omega) (by omega)).mpr z)
          refine lv_aload_n hx hb d_MO_isWordRight_101 rfl (lv_at hl 5 rfl) ?_
          refine lv_iload hx hb d_MO_isWordRight_102 (lv_at hl 1 rfl) ?_
          refine fm_cs S (c_MO_isThereN l dC dI fa cB f (fm_AT (fm_RB f) 6 k 3) (by omega) (hL)) rfl rfl k_MO_isThere q_3_194 ⟨Nat.le_of_ble_eq_true rfl, Nat.le_of_ble_eq_true rfl⟩ (hP.sub [0] rfl) (hK.sub [0] rfl) rfl hl.1 rfl (Nat.le_of_ble_eq_true rfl) ⟨Nat.zero_le _, Nat.zero_le _⟩ d_MO_isWordRight_104 ?_
          refine lv_if_eq (tgt := 139) hx hb d_MO_isWordRight_107 (by decide) (fun c0 => ?_) (fun c0 => ?_)
          · have c_107 : (fm_th (fm_RB f) (fm_AT (fm_RB f) 6 k 3)) = false := fm_bI_f c0
            refine lv_iconst (v := nI (0)) hx hb d_MO_isWordRight_139 (by decide) ?_
            refine fm_tw (z := (fm_bI (fm_w1 (fm_RB f) k && fm_w2 (fm_RB f) k))) (by first | exact fm_cF1 c_90 | exact fm_cT c_90 (fm_w2_1 c_98 c_107) | exact fm_cF2 (fm_w2_1 c_98 c_107) | exact fm_cT c_90 (fm_w2_t c_98 c_132) | exact fm_cF2 (fm_w2_f c_98 c_132)) ?_
            refine lv_istore (lv' := [(6, .int (fm_bI (fm_w1 (fm_RB f) k && fm_w2 (fm_RB f) k))), (5, .int (nI (fm_AT (fm_RB f) 6 k 3))), (4, .int (nI (fm_AT (fm_RB f) 6 k 2))), (3, .int (nI (fm_AT (fm_RB f) 6 k 1))), (2, .int (nI (fm_AT (fm_RB f) 6 k 0))), (0, .ref fa), (1, .int (nI (k)))]) hx hb d_MO_isWordRight_140 hl (by decide) rfl (fun ls hl => ?_)
            refine lv_iload hx hb d_MO_isWordRight_142 (lv_at hl 0 rfl) ?_
            refine lv_if_eq (tgt := 172) hx hb d_MO_isWordRight_144 (by decide) (fun c0 => ?_) (fun c0 => ?_)
            · have c_144 : (fm_w1 (fm_RB f) k && fm_w2 (fm_RB f) k) = false := fm_bI_f c0
              refine lv_iconst (v := nI (0)) hx hb d_MO_isWordRight_172 (by decide) ?_
              exact W.zret (ty := .boolean) hx hb hr (rfl) (fun t ht hW => ⟨_, rfl, by rw [fm_word1, if_neg (Nat.not_lt.mpr c_13)]; first | exact fm_cF1 c_144 | exact fm_cT c_144 (by rw [fm_w3, decide_eq_true c_151]; rfl) | exact fm_cT c_144 (by rw [fm_w3, decide_eq_true (Nat.lt_of_not_le c_165), Bool.or_true]) | exact fm_cF2 (by rw [fm_w3, decide_eq_false c_151, decide_eq_false (Nat.not_lt.mpr c_165)]; rfl), ht⟩) (fun q hq => by cases hq) d_MO_isWordRight_173
            · have c_144 : (fm_w1 (fm_RB f) k && fm_w2 (fm_RB f) k) = true := fm_bI_t c0
              refine lv_iload_n hx hb d_MO_isWordRight_147 rfl (lv_at hl 4 rfl) ?_
              refine lv_sipush (v := nI (128)) hx hb d_MO_isWordRight_148 (by decide) ?_
              refine lv_icmp_eq (tgt := 168) hx hb d_MO_isWordRight_151 (by decide) (fun c0 => ?_) (fun c0 => ?_)
              · have c_151 : fm_AT (fm_RB f) 6 k 0 = 128 := (nI_eq (a := fm_AT (fm_RB f) 6 k 0) (b := 128) (by omega) (by omega)).mp c0
                refine lv_iconst (v := nI (1)) hx hb d_MO_isWordRight_168 (by decide) ?_
                refine lv_goto (tgt := 173) hx hb d_MO_isWordRight_169 (by decide) ?_
                exact W.zret (ty := .boolean) hx hb hr (rfl) (fun t ht hW => ⟨_, rfl, by rw [fm_word1, if_neg (Nat.not_lt.mpr c_13)]; first | exact fm_cF1 c_144 | exact fm_cT c_144 (by rw [fm_w3, decide_eq_true c_151]; rfl) | exact fm_cT c_144 (by rw [fm_w3, decide_eq_true (Nat.lt_of_not_le c_165), Bool.or_true]) | exact fm_cF2 (by rw [fm_w3, decide_eq_false c_151, decide_eq_false (Nat.not_lt.mpr c_165)]; rfl), ht⟩) (fun q hq => by cases hq) d_MO_isWordRight_173
              · have c_151 : ¬ (fm_AT (fm_RB f) 6 k 0 = 128) := fun z => c0 ((nI_eq (a := fm_AT (fm_RB f) 6 k 0) (b := 128) (by omega) (by omega)).mpr z)
                refine lv_iload_n hx hb d_MO_isWordRight_154 rfl (lv_at hl 6 rfl) ?_
                refine lv_iload_n hx hb d_MO_isWordRight_155 rfl (lv_at hl 4 rfl) ?_
                refine lv_iadd hx hb d_MO_isWordRight_156 ?_
                refine fm_tw (z := nI (k + fm_AT (fm_RB f) 6 k 0)) (nI_add _ _) ?_
                refine lv_iconst (v := nI (1)) hx hb d_MO_isWordRight_157 (by decide) ?_
                refine lv_iadd hx hb d_MO_isWordRight_158 ?_
                refine fm_tw (z := nI (k + fm_AT (fm_RB f) 6 k 0 + 1)) (nI_add _ _) ?_
                refine lv_aload_n hx hb d_MO_isWordRight_159 rfl (lv_at hl 5 rfl) ?_
                refine lv_bipush (v := nI (6)) hx hb d_MO_isWordRight_160 (by decide) ?_
                refine fm_cs S (c_MO_words l dC dI fa cB f 6 (by omega) (fun _ => hq)) rfl rfl k_MO_words q_3_175 ⟨Nat.le_of_ble_eq_true rfl, Nat.le_of_ble_eq_true rfl⟩ (hP.sub [0] rfl) (hK.sub [0] rfl) rfl hl.1 rfl (Nat.le_of_ble_eq_true rfl) ⟨Nat.zero_le _, Nat.zero_le _⟩ d_MO_isWordRight_162 ?_
                have f0_162 := fm_WD_le (fm_RB_lt f) 6
                refine lv_icmp_ge (tgt := 172) hx hb d_MO_isWordRight_165 (by decide) (fun c0 => ?_) (fun c0 => ?_)
                · have c_165 : fm_WD (fm_RB f) 6 ≤ k + fm_AT (fm_RB f) 6 k 0 + 1 := (nI_leI (a := fm_WD (fm_RB f) 6) (b := k + fm_AT (fm_RB f) 6 k 0 + 1) (by omega) (by omega)).mp c0
                  refine lv_iconst (v := nI (0)) hx hb d_MO_isWordRight_172 (by decide) ?_
                  exact W.zret (ty := .boolean) hx hb hr (rfl) (fun t ht hW => ⟨_, rfl, by rw [fm_word1, if_neg (Nat.not_lt.mpr c_13)]; first | exact fm_cF1 c_144 | exact fm_cT c_144 (by rw [fm_w3, decide_eq_true c_151]; rfl) | exact fm_cT c_144 (by rw [fm_w3, decide_eq_true (Nat.lt_of_not_le c_165), Bool.or_true]) | exact fm_cF2 (by rw [fm_w3, decide_eq_false c_151, decide_eq_false (Nat.not_lt.mpr c_165)]; rfl), ht⟩) (fun q hq => by cases hq) d_MO_isWordRight_173
                · have c_165 : ¬ (fm_WD (fm_RB f) 6 ≤ k + fm_AT (fm_RB f) 6 k 0 + 1) := fun z => c0 ((nI_leI (a := fm_WD (fm_RB f) 6) (b := k + fm_AT (fm_RB f) 6 k 0 + 1) (by omega) (by omega)).mpr z)
                  refine lv_iconst (v := nI (1)) hx hb d_MO_isWordRight_168 (by decide) ?_
                  refine lv_goto (tgt := 173) hx hb d_MO_isWordRight_169 (by decide) ?_
                  exact W.zret (ty := .boolean) hx hb hr (rfl) (fun t ht hW => ⟨_, rfl, by rw [fm_word1, if_neg (Nat.not_lt.mpr c_13)]; first | exact fm_cF1 c_144 | exact fm_cT c_144 (by rw [fm_w3, decide_eq_true c_151]; rfl) | exact fm_cT c_144 (by rw [fm_w3, decide_eq_true (Nat.lt_of_not_le c_165), Bool.or_true]) | exact fm_cF2 (by rw [fm_w3, decide_eq_false c_151, decide_eq_false (Nat.not_lt.mpr c_165)]; rfl), ht⟩) (fun q hq => by cases hq) d_MO_isWordRight_173
          · have c_107 : (fm_th (fm_RB f) (fm_AT (fm_RB f) 6 k 3)) = true := fm_bI_t c0
            refine lv_goto (tgt := 135) hx hb d_MO_isWordRight_110 (by decide) ?_
            refine lv_iconst (v := nI (1)) hx hb d_MO_isWordRight_135 (by decide) ?_
            refine lv_goto (tgt := 140) hx hb d_MO_isWordRight_136 (by decide) ?_
            refine fm_tw (z := (fm_bI (fm_w1 (fm_RB f) k && fm_w2 (fm_RB f) k))) (by first | exact fm_cF1 c_90 | exact fm_cT c_90 (fm_w2_1 c_98 c_107) | exact fm_cF2 (fm_w2_1 c_98 c_107) | exact fm_cT c_90 (fm_w2_t c_98 c_132) | exact fm_cF2 (fm_w2_f c_98 c_132)) ?_
            refine lv_istore (lv' := [(6, .int (fm_bI (fm_w1 (fm_RB f) k && fm_w2 (fm_RB f) k))), (5, .int (nI (fm_AT (fm_RB f) 6 k 3))), (4, .int (nI (fm_AT (fm_RB f) 6 k 2))), (3, .int (nI (fm_AT (fm_RB f) 6 k 1))), (2, .int (nI (fm_AT (fm_RB f) 6 k 0))), (0, .ref fa), (1, .int (nI (k)))]) hx hb d_MO_isWordRight_140 hl (by decide) rfl (fun ls hl => ?_)
            refine lv_iload hx hb d_MO_isWordRight_142 (lv_at hl 0 rfl) ?_
            refine lv_if_eq (tgt := 172) hx hb d_MO_isWordRight_144 (by decide) (fun c0 => ?_) (fun c0 => ?_)
            · have c_144 : (fm_w1 (fm_RB f) k && fm_w2 (fm_RB f) k) = false := fm_bI_f c0
              refine lv_iconst (v := nI (0)) hx hb d_MO_isWordRight_172 (by decide) ?_
              exact W.zret (ty := .boolean) hx hb hr (rfl) (fun t ht hW => ⟨_, rfl, by rw [fm_word1, if_neg (Nat.not_lt.mpr c_13)]; first | exact fm_cF1 c_144 | exact fm_cT c_144 (by rw [fm_w3, decide_eq_true c_151]; rfl) | exact fm_cT c_144 (by rw [fm_w3, decide_eq_true (Nat.lt_of_not_le c_165), Bool.or_true]) | exact fm_cF2 (by rw [fm_w3, decide_eq_false c_151, decide_eq_false (Nat.not_lt.mpr c_165)]; rfl), ht⟩) (fun q hq => by cases hq) d_MO_isWordRight_173
            · have c_144 : (fm_w1 (fm_RB f) k && fm_w2 (fm_RB f) k) = true := fm_bI_t c0
              refine lv_iload_n hx hb d_MO_isWordRight_147 rfl (lv_at hl 4 rfl) ?_
              refine lv_sipush (v := nI (128)) hx hb d_MO_isWordRight_148 (by decide) ?_
              refine lv_icmp_eq (tgt := 168) hx hb d_MO_isWordRight_151 (by decide) (fun c0 => ?_) (fun c0 => ?_)
              · have c_151 : fm_AT (fm_RB f) 6 k 0 = 128 := (nI_eq (a := fm_AT (fm_RB f) 6 k 0) (b := 128) (by omega) (by omega)).mp c0
                refine lv_iconst (v := nI (1)) hx hb d_MO_isWordRight_168 (by decide) ?_
                refine lv_goto (tgt := 173) hx hb d_MO_isWordRight_169 (by decide) ?_
                exact W.zret (ty := .boolean) hx hb hr (rfl) (fun t ht hW => ⟨_, rfl, by rw [fm_word1, if_neg (Nat.not_lt.mpr c_13)]; first | exact fm_cF1 c_144 | exact fm_cT c_144 (by rw [fm_w3, decide_eq_true c_151]; rfl) | exact fm_cT c_144 (by rw [fm_w3, decide_eq_true (Nat.lt_of_not_le c_165), Bool.or_true]) | exact fm_cF2 (by rw [fm_w3, decide_eq_false c_151, decide_eq_false (Nat.not_lt.mpr c_165)]; rfl), ht⟩) (fun q hq => by cases hq) d_MO_isWordRight_173
              · have c_151 : ¬ (fm_AT (fm_RB f) 6 k 0 = 128) := fun z => c0 ((nI_eq (a := fm_AT (fm_RB f) 6 k 0) (b := 128) (by omega) (by omega)).mpr z)
                refine lv_iload_n hx hb d_MO_isWordRight_154 rfl (lv_at hl 6 rfl) ?_
                refine lv_iload_n hx hb d_MO_isWordRight_155 rfl (lv_at hl 4 rfl) ?_
                refine lv_iadd hx hb d_MO_isWordRight_156 ?_
                refine fm_tw (z := nI (k + fm_AT (fm_RB f) 6 k 0)) (nI_add _ _) ?_
                refine lv_iconst (v := nI (1)) hx hb d_MO_isWordRight_157 (by decide) ?_
                refine lv_iadd hx hb d_MO_isWordRight_158 ?_
                refine fm_tw (z := nI (k + fm_AT (fm_RB f) 6 k 0 + 1)) (nI_add _ _) ?_
                refine lv_aload_n hx hb d_MO_isWordRight_159 rfl (lv_at hl 5 rfl) ?_
                refine lv_bipush (v := nI (6)) hx hb d_MO_isWordRight_160 (by decide) ?_
                refine fm_cs S (c_MO_words l dC dI fa cB f 6 (by omega) (fun _ => hq)) rfl rfl k_MO_words q_3_175 ⟨Nat.le_of_ble_eq_true rfl, Nat.le_of_ble_eq_true rfl⟩ (hP.sub [0] rfl) (hK.sub [0] rfl) rfl hl.1 rfl (Nat.le_of_ble_eq_true rfl) ⟨Nat.zero_le _, Nat.zero_le _⟩ d_MO_isWordRight_162 ?_
                have f0_162 := fm_WD_le (fm_RB_lt f) 6
                refine lv_icmp_ge (tgt := 172) hx hb d_MO_isWordRight_165 (by decide) (fun c0 => ?_) (fun c0 => ?_)
                · have c_165 : fm_WD (fm_RB f) 6 ≤ k + fm_AT (fm_RB f) 6 k 0 + 1 := (nI_leI (a := fm_WD (fm_RB f) 6) (b := k + fm_AT (fm_RB f) 6 k 0 + 1) (by omega) (by omega)).mp c0
                  refine lv_iconst (v := nI (0)) hx hb d_MO_isWordRight_172 (by decide) ?_
                  exact W.zret (ty := .boolean) hx hb hr (rfl) (fun t ht hW => ⟨_, rfl, by rw [fm_word1, if_neg (Nat.not_lt.mpr c_13)]; first | exact fm_cF1 c_144 | exact fm_cT c_144 (by rw [fm_w3, decide_eq_true c_151]; rfl) | exact fm_cT c_144 (by rw [fm_w3, decide_eq_true (Nat.lt_of_not_le c_165), Bool.or_true]) | exact fm_cF2 (by rw [fm_w3, decide_eq_false c_151, decide_eq_false (Nat.not_lt.mpr c_165)]; rfl), ht⟩) (fun q hq => by cases hq) d_MO_isWordRight_173
                · have c_165 : ¬ (fm_WD (fm_RB f) 6 ≤ k + fm_AT (fm_RB f) 6 k 0 + 1) := fun z => c0 ((nI_leI (a := fm_WD (fm_RB f) 6) (b := k + fm_AT (fm_RB f) 6 k 0 + 1) (by omega) (by omega)).mpr z)
                  refine lv_iconst (v := nI (1)) hx hb d_MO_isWordRight_168 (by decide) ?_
                  refine lv_goto (tgt := 173) hx hb d_MO_isWordRight_169 (by decide) ?_
                  exact W.zret (ty := .boolean) hx hb hr (rfl) (fun t ht hW => ⟨_, rfl, by rw [fm_word1, if_neg (Nat.not_lt.mpr c_13)]; first | exact fm_cF1 c_144 | exact fm_cT c_144 (by rw [fm_w3, decide_eq_true c_151]; rfl) | exact fm_cT c_144 (by rw [fm_w3, decide_eq_true (Nat.lt_of_not_le c_165), Bool.or_true]) | exact fm_cF2 (by rw [fm_w3, decide_eq_false c_151, decide_eq_false (Nat.not_lt.mpr c_165)]; rfl), ht⟩) (fun q hq => by cases hq) d_MO_isWordRight_173
    · have c_70 : (fm_th (fm_RB f) (fm_AT (fm_RB f) 6 k 1)) = false := fm_bI_f c0
      refine lv_iload_n hx hb d_MO_isWordRight_73 rfl (lv_at hl 2 rfl) ?_
      refine lv_aload_n hx hb d_MO_isWordRight_74 rfl (lv_at hl 4 rfl) ?_
      refine fm_cs S (c_MO_edgeOf l dC dI fa cB f (hL)) rfl rfl k_MO_edgeOf q_3_221 ⟨Nat.le_of_ble_eq_true rfl, Nat.le_of_ble_eq_true rfl⟩ (hP.sub [0] rfl) (hK.sub [0] rfl) rfl hl.1 rfl (Nat.le_of_ble_eq_true rfl) ⟨Nat.zero_le _, Nat.zero_le _⟩ d_MO_isWordRight_75 ?_
      refine lv_icmp_ne (tgt := 85) hx hb d_MO_isWordRight_78 (by decide) (fun c0 => ?_) (fun c0 => ?_)
      · have c_78 := c0
        refine lv_iconst (v := nI (0)) hx hb d_MO_isWordRight_85 (by decide) ?_
        refine fm_tw (z := (fm_bI (fm_w1 (fm_RB f) k))) (by first | (refine fm_bI_1 ?_; rw [fm_w1, c_70]; rfl) | (refine fm_bI_1 ?_; rw [fm_w1, decide_eq_true c_78, Bool.or_true]) | (refine fm_bI_0 ?_; rw [fm_w1, c_70, decide_eq_false c_78]; rfl)) ?_
        refine lv_istore (lv' := [(6, .int (fm_bI (fm_w1 (fm_RB f) k))), (5, .int (nI (fm_AT (fm_RB f) 6 k 3))), (4, .int (nI (fm_AT (fm_RB f) 6 k 2))), (3, .int (nI (fm_AT (fm_RB f) 6 k 1))), (2, .int (nI (fm_AT (fm_RB f) 6 k 0))), (0, .ref fa), (1, .int (nI (k)))]) hx hb d_MO_isWordRight_86 hl (by decide) rfl (fun ls hl => ?_)
        refine lv_iload hx hb d_MO_isWordRight_88 (lv_at hl 0 rfl) ?_
        refine lv_if_eq (tgt := 139) hx hb d_MO_isWordRight_90 (by decide) (fun c0 => ?_) (fun c0 => ?_)
        · have c_90 : (fm_w1 (fm_RB f) k) = false := fm_bI_f c0
          refine lv_iconst (v := nI (0)) hx hb d_MO_isWordRight_139 (by decide) ?_
          refine fm_tw (z := (fm_bI (fm_w1 (fm_RB f) k && fm_w2 (fm_RB f) k))) (by first | exact fm_cF1 c_90 | exact fm_cT c_90 (fm_w2_1 c_98 c_107) | exact fm_cF2 (fm_w2_1 c_98 c_107) | exact fm_cT c_90 (fm_w2_t c_98 c_132) | exact fm_cF2 (fm_w2_f c_98 c_132)) ?_
          refine lv_istore (lv' := [(6, .int (fm_bI (fm_w1 (fm_RB f) k && fm_w2 (fm_RB f) k))), (5, .int (nI (fm_AT (fm_RB f) 6 k 3))), (4, .int (nI (fm_AT (fm_RB f) 6 k 2))), (3, .int (nI (fm_AT (fm_RB f) 6 k 1))), (2, .int (nI (fm_AT (fm_RB f) 6 k 0))), (0, .ref fa), (1, .int (nI (k)))]) hx hb d_MO_isWordRight_140 hl (by decide) rfl (fun ls hl => ?_)
          refine lv_iload hx hb d_MO_isWordRight_142 (lv_at hl 0 rfl) ?_
          refine lv_if_eq (tgt := 172) hx hb d_MO_isWordRight_144 (by decide) (fun c0 => ?_) (fun c0 => ?_)
          · have c_144 : (fm_w1 (fm_RB f) k && fm_w2 (fm_RB f) k) = false := fm_bI_f c0
            refine lv_iconst (v := nI (0)) hx hb d_MO_isWordRight_172 (by decide) ?_
            exact W.zret (ty := .boolean) hx hb hr (rfl) (fun t ht hW => ⟨_, rfl, by rw [fm_word1, if_neg (Nat.not_lt.mpr c_13)]; first | exact fm_cF1 c_144 | exact fm_cT c_144 (by rw [fm_w3, decide_eq_true c_151]; rfl) | exact fm_cT c_144 (by rw [fm_w3, decide_eq_true (Nat.lt_of_not_le c_165), Bool.or_true]) | exact fm_cF2 (by rw [fm_w3, decide_eq_false c_151, decide_eq_false (Nat.not_lt.mpr c_165)]; rfl), ht⟩) (fun q hq => by cases hq) d_MO_isWordRight_173
          · have c_144 : (fm_w1 (fm_RB f) k && fm_w2 (fm_RB f) k) = true := fm_bI_t c0
            refine lv_iload_n hx hb d_MO_isWordRight_147 rfl (lv_at hl 4 rfl) ?_
            refine lv_sipush (v := nI (128)) hx hb d_MO_isWordRight_148 (by decide) ?_
            refine lv_icmp_eq (tgt := 168) hx hb d_MO_isWordRight_151 (by decide) (fun c0 => ?_) (fun c0 => ?_)
            · have c_151 : fm_AT (fm_RB f) 6 k 0 = 128 := (nI_eq (a := fm_AT (fm_RB f) 6 k 0) (b := 128) (by omega) (by omega)).mp c0
              refine lv_iconst (v := nI (1)) hx hb d_MO_isWordRight_168 (by decide) ?_
              refine lv_goto (tgt := 173) hx hb d_MO_isWordRight_169 (by decide) ?_
              exact W.zret (ty := .boolean) hx hb hr (rfl) (fun t ht hW => ⟨_, rfl, by rw [fm_word1, if_neg (Nat.not_lt.mpr c_13)]; first | exact fm_cF1 c_144 | exact fm_cT c_144 (by rw [fm_w3, decide_eq_true c_151]; rfl) | exact fm_cT c_144 (by rw [fm_w3, decide_eq_true (Nat.lt_of_not_le c_165), Bool.or_true]) | exact fm_cF2 (by rw [fm_w3, decide_eq_false c_151, decide_eq_false (Nat.not_lt.mpr c_165)]; rfl), ht⟩) (fun q hq => by cases hq) d_MO_isWordRight_173
            · have c_151 : ¬ (fm_AT (fm_RB f) 6 k 0 = 128) := fun z => c0 ((nI_eq (a := fm_AT (fm_RB f) 6 k 0) (b := 128) (by omega) (by omega)).mpr z)
              refine lv_iload_n hx hb d_MO_isWordRight_154 rfl (lv_at hl 6 rfl) ?_
              refine lv_iload_n hx hb d_MO_isWordRight_155 rfl (lv_at hl 4 rfl) ?_
              refine lv_iadd hx hb d_MO_isWordRight_156 ?_
              refine fm_tw (z := nI (k + fm_AT (fm_RB f) 6 k 0)) (nI_add _ _) ?_
              refine lv_iconst (v := nI (1)) hx hb d_MO_isWordRight_157 (by decide) ?_
              refine lv_iadd hx hb d_MO_isWordRight_158 ?_
              refine fm_tw (z := nI (k + fm_AT (fm_RB f) 6 k 0 + 1)) (nI_add _ _) ?_
              refine lv_aload_n hx hb d_MO_isWordRight_159 rfl (lv_at hl 5 rfl) ?_
              refine lv_bipush (v := nI (6)) hx hb d_MO_isWordRight_160 (by decide) ?_
              refine fm_cs S (c_MO_words l dC dI fa cB f 6 (by omega) (fun _ => hq)) rfl rfl k_MO_words q_3_175 ⟨Nat.le_of_ble_eq_true rfl, Nat.le_of_ble_eq_true rfl⟩ (hP.sub [0] rfl) (hK.sub [0] rfl) rfl hl.1 rfl (Nat.le_of_ble_eq_true rfl) ⟨Nat.zero_le _, Nat.zero_le _⟩ d_MO_isWordRight_162 ?_
              have f0_162 := fm_WD_le (fm_RB_lt f) 6
              refine lv_icmp_ge (tgt := 172) hx hb d_MO_isWordRight_165 (by decide) (fun c0 => ?_) (fun c0 => ?_)
              · have c_165 : fm_WD (fm_RB f) 6 ≤ k + fm_AT (fm_RB f) 6 k 0 + 1 := (nI_leI (a := fm_WD (fm_RB f) 6) (b := k + fm_AT (fm_RB f) 6 k 0 + 1) (by omega) (by omega)).mp c0
                refine lv_iconst (v := nI (0)) hx hb d_MO_isWordRight_172 (by decide) ?_
                exact W.zret (ty := .boolean) hx hb hr (rfl) (fun t ht hW => ⟨_, rfl, by rw [fm_word1, if_neg (Nat.not_lt.mpr c_13)]; first | exact fm_cF1 c_144 | exact fm_cT c_144 (by rw [fm_w3, decide_eq_true c_151]; rfl) | exact fm_cT c_144 (by rw [fm_w3, decide_eq_true (Nat.lt_of_not_le c_165), Bool.or_true]) | exact fm_cF2 (by rw [fm_w3, decide_eq_false c_151, decide_eq_false (Nat.not_lt.mpr c_165)]; rfl), ht⟩) (fun q hq => by cases hq) d_MO_isWordRight_173
              · have c_165 : ¬ (fm_WD (fm_RB f) 6 ≤ k + fm_AT (fm_RB f) 6 k 0 + 1) := fun z => c0 ((nI_leI (a := fm_WD (fm_RB f) 6) (b := k + fm_AT (fm_RB f) 6 k 0 + 1) (by omega) (by omega)).mpr z)
                refine lv_iconst (v := nI (1)) hx hb d_MO_isWordRight_168 (by decide) ?_
                refine lv_goto (tgt := 173) hx hb d_MO_isWordRight_169 (by decide) ?_
                exact W.zret (ty := .boolean) hx hb hr (rfl) (fun t ht hW => ⟨_, rfl, by rw [fm_word1, if_neg (Nat.not_lt.mpr c_13)]; first | exact fm_cF1 c_144 | exact fm_cT c_144 (by rw [fm_w3, decide_eq_true c_151]; rfl) | exact fm_cT c_144 (by rw [fm_w3, decide_eq_true (Nat.lt_of_not_le c_165), Bool.or_true]) | exact fm_cF2 (by rw [fm_w3, decide_eq_false c_151, decide_eq_false (Nat.not_lt.mpr c_165)]; rfl), ht⟩) (fun q hq => by cases hq) d_MO_isWordRight_173
        · have c_90 : (fm_w1 (fm_RB f) k) = true := fm_bI_t c0
          refine lv_iload hx hb d_MO_isWordRight_93 (lv_at hl 2 rfl) ?_
          refine lv_sipush (v := nI (128)) hx hb d_MO_isWordRight_95 (by decide) ?_
          refine lv_icmp_ge (tgt := 113) hx hb d_MO_isWordRight_98 (by decide) (fun c0 => ?_) (fun c0 => ?_)
          · have c_98 : 128 ≤ fm_AT (fm_RB f) 6 k 2 := (nI_leI (a := 128) (b := fm_AT (fm_RB f) 6 k 2) (by omega) (by omega)).mp c0
            refine lv_sipush (v := nI (256)) hx hb d_MO_isWordRight_113 (by decide) ?_
            refine lv_iload hx hb d_MO_isWordRight_116 (lv_at hl 2 rfl) ?_
            refine lv_sipush (v := nI (128)) hx hb d_MO_isWordRight_118 (by decide) ?_
            refine lv_isub hx hb d_MO_isWordRight_121 ?_
            refine fm_tw (z := nI (fm_AT (fm_RB f) 6 k 2 - 128)) (pk_sub (by omega)) ?_
            refine lv_imul hx hb d_MO_isWordRight_122 ?_
            refine fm_tw (z := nI (256 * (fm_AT (fm_RB f) 6 k 2 - 128))) (pk_mul _ _) ?_
            refine lv_iload hx hb d_MO_isWordRight_123 (lv_at hl 1 rfl) ?_
            refine lv_iadd hx hb d_MO_isWordRight_125 ?_
            refine fm_tw (z := nI (256 * (fm_AT (fm_RB f) 6 k 2 - 128) + fm_AT (fm_RB f) 6 k 3)) (nI_add _ _) ?_
            refine lv_aload_n hx hb d_MO_isWordRight_126 rfl (lv_at hl 5 rfl) ?_
            refine lv_bipush (v := nI (7)) hx hb d_MO_isWordRight_127 (by decide) ?_
            refine fm_cs S (c_MO_words l dC dI fa cB f 7 (by omega) (fun _ => hq)) rfl rfl k_MO_words q_3_175 ⟨Nat.le_of_ble_eq_true rfl, Nat.le_of_ble_eq_true rfl⟩ (hP.sub [0] rfl) (hK.sub [0] rfl) rfl hl.1 rfl (Nat.le_of_ble_eq_true rfl) ⟨Nat.zero_le _, Nat.zero_le _⟩ d_MO_isWordRight_129 ?_
            have f0_129 := fm_WD_le (fm_RB_lt f) 7
            refine lv_icmp_ge (tgt := 139) hx hb d_MO_isWordRight_132 (by decide) (fun c0 => ?_) (fun c0 => ?_)
            · have c_132 : fm_WD (fm_RB f) 7 ≤ 256 * (fm_AT (fm_RB f) 6 k 2 - 128) + fm_AT (fm_RB f) 6 k 3 := (nI_leI (a := fm_WD (fm_RB f) 7) (b := 256 * (fm_AT (fm_RB f) 6 k 2 - 128) + fm_AT (fm_RB f) 6 k 3) (by omega) (by omega)).mp c0
              refine lv_iconst (v := nI (0)) hx hb d_MO_isWordRight_139 (by decide) ?_
              refine fm_tw (z := (fm_bI (fm_w1 (fm_RB f) k && fm_w2 (fm_RB f) k))) (by first | exact fm_cF1 c_90 | exact fm_cT c_90 (fm_w2_1 c_98 c_107) | exact fm_cF2 (fm_w2_1 c_98 c_107) | exact fm_cT c_90 (fm_w2_t c_98 c_132) | exact fm_cF2 (fm_w2_f c_98 c_132)) ?_
              refine lv_istore (lv' := [(6, .int (fm_bI (fm_w1 (fm_RB f) k && fm_w2 (fm_RB f) k))), (5, .int (nI (fm_AT (fm_RB f) 6 k 3))), (4, .int (nI (fm_AT (fm_RB f) 6 k 2))), (3, .int (nI (fm_AT (fm_RB f) 6 k 1))), (2, .int (nI (fm_AT (fm_RB f) 6 k 0))), (0, .ref fa), (1, .int (nI (k)))]) hx hb d_MO_isWordRight_140 hl (by decide) rfl (fun ls hl => ?_)
              refine lv_iload hx hb d_MO_isWordRight_142 (lv_at hl 0 rfl) ?_
              refine lv_if_eq (tgt := 172) hx hb d_MO_isWordRight_144 (by decide) (fun c0 => ?_) (fun c0 => ?_)
              · have c_144 : (fm_w1 (fm_RB f) k && fm_w2 (fm_RB f) k) = false := fm_bI_f c0
                refine lv_iconst (v := nI (0)) hx hb d_MO_isWordRight_172 (by decide) ?_
                exact W.zret (ty := .boolean) hx hb hr (rfl) (fun t ht hW => ⟨_, rfl, by rw [fm_word1, if_neg (Nat.not_lt.mpr c_13)]; first | exact fm_cF1 c_144 | exact fm_cT c_144 (by rw [fm_w3, decide_eq_true c_151]; rfl) | exact fm_cT c_144 (by rw [fm_w3, decide_eq_true (Nat.lt_of_not_le c_165), Bool.or_true]) | exact fm_cF2 (by rw [fm_w3, decide_eq_false c_151, decide_eq_false (Nat.not_lt.mpr c_165)]; rfl), ht⟩) (fun q hq => by cases hq) d_MO_isWordRight_173
              · have c_144 : (fm_w1 (fm_RB f) k && fm_w2 (fm_RB f) k) = true := fm_bI_t c0
                refine lv_iload_n hx hb d_MO_isWordRight_147 rfl (lv_at hl 4 rfl) ?_
                refine lv_sipush (v := nI (128)) hx hb d_MO_isWordRight_148 (by decide) ?_
                refine lv_icmp_eq (tgt := 168) hx hb d_MO_isWordRight_151 (by decide) (fun c0 => ?_) (fun c0 => ?_)
                · have c_151 : fm_AT (fm_RB f) 6 k 0 = 128 := (nI_eq (a := fm_AT (fm_RB f) 6 k 0) (b := 128) (by omega) (by omega)).mp c0
                  refine lv_iconst (v := nI (1)) hx hb d_MO_isWordRight_168 (by decide) ?_
                  refine lv_goto (tgt := 173) hx hb d_MO_isWordRight_169 (by decide) ?_
                  exact W.zret (ty := .boolean) hx hb hr (rfl) (fun t ht hW => ⟨_, rfl, by rw [fm_word1, if_neg (Nat.not_lt.mpr c_13)]; first | exact fm_cF1 c_144 | exact fm_cT c_144 (by rw [fm_w3, decide_eq_true c_151]; rfl) | exact fm_cT c_144 (by rw [fm_w3, decide_eq_true (Nat.lt_of_not_le c_165), Bool.or_true]) | exact fm_cF2 (by rw [fm_w3, decide_eq_false c_151, decide_eq_false (Nat.not_lt.mpr c_165)]; rfl), ht⟩) (fun q hq => by cases hq) d_MO_isWordRight_173
                · have c_151 : ¬ (fm_AT (fm_RB f) 6 k 0 = 128) := fun z => c0 ((nI_eq (a := fm_AT (fm_RB f) 6 k 0) (b := 128) (by omega) (by omega)).mpr z)
                  refine lv_iload_n hx hb d_MO_isWordRight_154 rfl (lv_at hl 6 rfl) ?_
                  refine lv_iload_n hx hb d_MO_isWordRight_155 rfl (lv_at hl 4 rfl) ?_
                  refine lv_iadd hx hb d_MO_isWordRight_156 ?_
                  refine fm_tw (z := nI (k + fm_AT (fm_RB f) 6 k 0)) (nI_add _ _) ?_
                  refine lv_iconst (v := nI (1)) hx hb d_MO_isWordRight_157 (by decide) ?_
                  refine lv_iadd hx hb d_MO_isWordRight_158 ?_
                  refine fm_tw (z := nI (k + fm_AT (fm_RB f) 6 k 0 + 1)) (nI_add _ _) ?_
                  refine lv_aload_n hx hb d_MO_isWordRight_159 rfl (lv_at hl 5 rfl) ?_
                  refine lv_bipush (v := nI (6)) hx hb d_MO_isWordRight_160 (by decide) ?_
                  refine fm_cs S (c_MO_words l dC dI fa cB f 6 (by omega) (fun _ => hq)) rfl rfl k_MO_words q_3_175 ⟨Nat.le_of_ble_eq_true rfl, Nat.le_of_ble_eq_true rfl⟩ (hP.sub [0] rfl) (hK.sub [0] rfl) rfl hl.1 rfl (Nat.le_of_ble_eq_true rfl) ⟨Nat.zero_le _, Nat.zero_le _⟩ d_MO_isWordRight_162 ?_
                  have f0_162 := fm_WD_le (fm_RB_lt f) 6
                  refine lv_icmp_ge (tgt := 172) hx hb d_MO_isWordRight_165 (by decide) (fun c0 => ?_) (fun c0 => ?_)
                  · have c_165 : fm_WD (fm_RB f) 6 ≤ k + fm_AT (fm_RB f) 6 k 0 + 1 := (nI_leI (a := fm_WD (fm_RB f) 6) (b := k + fm_AT (fm_RB f) 6 k 0 + 1) (by omega) (by omega)).mp c0
                    refine lv_iconst (v := nI (0)) hx hb d_MO_isWordRight_172 (by decide) ?_
                    exact W.zret (ty := .boolean) hx hb hr (rfl) (fun t ht hW => ⟨_, rfl, by rw [fm_word1, if_neg (Nat.not_lt.mpr c_13)]; first | exact fm_cF1 c_144 | exact fm_cT c_144 (by rw [fm_w3, decide_eq_true c_151]; rfl) | exact fm_cT c_144 (by rw [fm_w3, decide_eq_true (Nat.lt_of_not_le c_165), Bool.or_true]) | exact fm_cF2 (by rw [fm_w3, decide_eq_false c_151, decide_eq_false (Nat.not_lt.mpr c_165)]; rfl), ht⟩) (fun q hq => by cases hq) d_MO_isWordRight_173
                  · have c_165 : ¬ (fm_WD (fm_RB f) 6 ≤ k + fm_AT (fm_RB f) 6 k 0 + 1) := fun z => c0 ((nI_leI (a := fm_WD (fm_RB f) 6) (b := k + fm_AT (fm_RB f) 6 k 0 + 1) (by omega) (by omega)).mpr z)
                    refine lv_iconst (v := nI (1)) hx hb d_MO_isWordRight_168 (by decide) ?_
                    refine lv_goto (tgt := 173) hx hb d_MO_isWordRight_169 (by decide) ?_
                    exact W.zret (ty := .boolean) hx hb hr (rfl) (fun t ht hW => ⟨_, rfl, by rw [fm_word1, if_neg (Nat.not_lt.mpr c_13)]; first | exact fm_cF1 c_144 | exact fm_cT c_144 (by rw [fm_w3, decide_eq_true c_151]; rfl) | exact fm_cT c_144 (by rw [fm_w3, decide_eq_true (Nat.lt_of_not_le c_165), Bool.or_true]) | exact fm_cF2 (by rw [fm_w3, decide_eq_false c_151, decide_eq_false (Nat.not_lt.mpr c_165)]; rfl), ht⟩) (fun q hq => by cases hq) d_MO_isWordRight_173
            · have c_132 : ¬ (fm_WD (fm_RB f) 7 ≤ 256 * (fm_AT (fm_RB f) 6 k 2 - 128) + fm_AT (fm_RB f) 6 k 3) := fun z => c0 ((nI_leI (a := fm_WD (fm_RB f) 7) (b := 256 * (fm_AT (fm_RB f) 6 k 2 - 128) + fm_AT (fm_RB f) 6 k 3) (by omega) (by omega)).mpr z)
              refine lv_iconst (v := nI (1)) hx hb d_MO_isWordRight_135 (by decide) ?_
              refine lv_goto (tgt := 140) hx hb d_MO_isWordRight_136 (by decide) ?_
              refine fm_tw (z := (fm_bI (fm_w1 (fm_RB f) k && fm_w2 (fm_RB f) k))) (by first | exact fm_cF1 c_90 | exact fm_cT c_90 (fm_w2_1 c_98 c_107) | exact fm_cF2 (fm_w2_1 c_98 c_107) | exact fm_cT c_90 (fm_w2_t c_98 c_132) | exact fm_cF2 (fm_w2_f c_98 c_132)) ?_
              refine lv_istore (lv' := [(6, .int (fm_bI (fm_w1 (fm_RB f) k && fm_w2 (fm_RB f) k))), (5, .int (nI (fm_AT (fm_RB f) 6 k 3))), (4, .int (nI (fm_AT (fm_RB f) 6 k 2))), (3, .int (nI (fm_AT (fm_RB f) 6 k 1))), (2, .int (nI (fm_AT (fm_RB f) 6 k 0))), (0, .ref fa), (1, .int (nI (k)))]) hx hb d_MO_isWordRight_140 hl (by decide) rfl (fun ls hl => ?_)
              refine lv_iload hx hb d_MO_isWordRight_142 (lv_at hl 0 rfl) ?_
              refine lv_if_eq (tgt := 172) hx hb d_MO_isWordRight_144 (by decide) (fun c0 => ?_) (fun c0 => ?_)
              · have c_144 : (fm_w1 (fm_RB f) k && fm_w2 (fm_RB f) k) = false := fm_bI_f c0
                refine lv_iconst (v := nI (0)) hx hb d_MO_isWordRight_172 (by decide) ?_
                exact W.zret (ty := .boolean) hx hb hr (rfl) (fun t ht hW => ⟨_, rfl, by rw [fm_word1, if_neg (Nat.not_lt.mpr c_13)]; first | exact fm_cF1 c_144 | exact fm_cT c_144 (by rw [fm_w3, decide_eq_true c_151]; rfl) | exact fm_cT c_144 (by rw [fm_w3, decide_eq_true (Nat.lt_of_not_le c_165), Bool.or_true]) | exact fm_cF2 (by rw [fm_w3, decide_eq_false c_151, decide_eq_false (Nat.not_lt.mpr c_165)]; rfl), ht⟩) (fun q hq => by cases hq) d_MO_isWordRight_173
              · have c_144 : (fm_w1 (fm_RB f) k && fm_w2 (fm_RB f) k) = true := fm_bI_t c0
                refine lv_iload_n hx hb d_MO_isWordRight_147 rfl (lv_at hl 4 rfl) ?_
                refine lv_sipush (v := nI (128)) hx hb d_MO_isWordRight_148 (by decide) ?_
                refine lv_icmp_eq (tgt := 168) hx hb d_MO_isWordRight_151 (by decide) (fun c0 => ?_) (fun c0 => ?_)
                · have c_151 : fm_AT (fm_RB f) 6 k 0 = 128 := (nI_eq (a := fm_AT (fm_RB f) 6 k 0) (b := 128) (by omega) (by omega)).mp c0
                  refine lv_iconst (v := nI (1)) hx hb d_MO_isWordRight_168 (by decide) ?_
                  refine lv_goto (tgt := 173) hx hb d_MO_isWordRight_169 (by decide) ?_
                  exact W.zret (ty := .boolean) hx hb hr (rfl) (fun t ht hW => ⟨_, rfl, by rw [fm_word1, if_neg (Nat.not_lt.mpr c_13)]; first | exact fm_cF1 c_144 | exact fm_cT c_144 (by rw [fm_w3, decide_eq_true c_151]; rfl) | exact fm_cT c_144 (by rw [fm_w3, decide_eq_true (Nat.lt_of_not_le c_165), Bool.or_true]) | exact fm_cF2 (by rw [fm_w3, decide_eq_false c_151, decide_eq_false (Nat.not_lt.mpr c_165)]; rfl), ht⟩) (fun q hq => by cases hq) d_MO_isWordRight_173
                · have c_151 : ¬ (fm_AT (fm_RB f) 6 k 0 = 128) := fun z => c0 ((nI_eq (a := fm_AT (fm_RB f) 6 k 0) (b := 128) (by omega) (by omega)).mpr z)
                  refine lv_iload_n hx hb d_MO_isWordRight_154 rfl (lv_at hl 6 rfl) ?_
                  refine lv_iload_n hx hb d_MO_isWordRight_155 rfl (lv_at hl 4 rfl) ?_
                  refine lv_iadd hx hb d_MO_isWordRight_156 ?_
                  refine fm_tw (z := nI (k + fm_AT (fm_RB f) 6 k 0)) (nI_add _ _) ?_
                  refine lv_iconst (v := nI (1)) hx hb d_MO_isWordRight_157 (by decide) ?_
                  refine lv_iadd hx hb d_MO_isWordRight_158 ?_
                  refine fm_tw (z := nI (k + fm_AT (fm_RB f) 6 k 0 + 1)) (nI_add _ _) ?_
                  refine lv_aload_n hx hb d_MO_isWordRight_159 rfl (lv_at hl 5 rfl) ?_
                  refine lv_bipush (v := nI (6)) hx hb d_MO_isWordRight_160 (by decide) ?_
                  refine fm_cs S (c_MO_words l dC dI fa cB f 6 (by omega) (fun _ => hq)) rfl rfl k_MO_words q_3_175 ⟨Nat.le_of_ble_eq_true rfl, Nat.le_of_ble_eq_true rfl⟩ (hP.sub [0] rfl) (hK.sub [0] rfl) rfl hl.1 rfl (Nat.le_of_ble_eq_true rfl) ⟨Nat.zero_le _, Nat.zero_le _⟩ d_MO_isWordRight_162 ?_
                  have f0_162 := fm_WD_le (fm_RB_lt f) 6
                  refine lv_icmp_ge (tgt := 172) hx hb d_MO_isWordRight_165 (by decide) (fun c0 => ?_) (fun c0 => ?_)
                  · have c_165 : fm_WD (fm_RB f) 6 ≤ k + fm_AT (fm_RB f) 6 k 0 + 1 := (nI_leI (a := fm_WD (fm_RB f) 6) (b := k + fm_AT (fm_RB f) 6 k 0 + 1) (by omega) (by omega)).mp c0
                    refine lv_iconst (v := nI (0)) hx hb d_MO_isWordRight_172 (by decide) ?_
                    exact W.zret (ty := .boolean) hx hb hr (rfl) (fun t ht hW => ⟨_, rfl, by rw [fm_word1, if_neg (Nat.not_lt.mpr c_13)]; first | exact fm_cF1 c_144 | exact fm_cT c_144 (by rw [fm_w3, decide_eq_true c_151]; rfl) | exact fm_cT c_144 (by rw [fm_w3, decide_eq_true (Nat.lt_of_not_le c_165), Bool.or_true]) | exact fm_cF2 (by rw [fm_w3, decide_eq_false c_151, decide_eq_false (Nat.not_lt.mpr c_165)]; rfl), ht⟩) (fun q hq => by cases hq) d_MO_isWordRight_173
                  · have c_165 : ¬ (fm_WD (fm_RB f) 6 ≤ k + fm_AT (fm_RB f) 6 k 0 + 1) := fun z => c0 ((nI_leI (a := fm_WD (fm_RB f) 6) (b := k + fm_AT (fm_RB f) 6 k 0 + 1) (by omega) (by omega)).mpr z)
                    refine lv_iconst (v := nI (1)) hx hb d_MO_isWordRight_168 (by decide) ?_
                    refine lv_goto (tgt := 173) hx hb d_MO_isWordRight_169 (by decide) ?_
                    exact W.zret (ty := .boolean) hx hb hr (rfl) (fun t ht hW => ⟨_, rfl, by rw [fm_word1, if_neg (Nat.not_lt.mpr c_13)]; first | exact fm_cF1 c_144 | exact fm_cT c_144 (by rw [fm_w3, decide_eq_true c_151]; rfl) | exact fm_cT c_144 (by rw [fm_w3, decide_eq_true (Nat.lt_of_not_le c_165), Bool.or_true]) | exact fm_cF2 (by rw [fm_w3, decide_eq_false c_151, decide_eq_false (Nat.not_lt.mpr c_165)]; rfl), ht⟩) (fun q hq => by cases hq) d_MO_isWordRight_173
          · have c_98 : ¬ (128 ≤ fm_AT (fm_RB f) 6 k 2) := fun z => c0 ((nI_leI (a := 128) (b := fm_AT (fm_RB f) 6 k 2) (by omega) (by omega)).mpr z)
            refine lv_aload_n hx hb d_MO_isWordRight_101 rfl (lv_at hl 5 rfl) ?_
            refine lv_iload hx hb d_MO_isWordRight_102 (lv_at hl 1 rfl) ?_
            refine fm_cs S (c_MO_isThereN l dC dI fa cB f (fm_AT (fm_RB f) 6 k 3) (by omega) (hL)) rfl rfl k_MO_isThere q_3_194 ⟨Nat.le_of_ble_eq_true rfl, Nat.le_of_ble_eq_true rfl⟩ (hP.sub [0] rfl) (hK.sub [0] rfl) rfl hl.1 rfl (Nat.le_of_ble_eq_true rfl) ⟨Nat.zero_le _, Nat.zero_le _⟩ d_MO_isWordRight_104 ?_
            refine lv_if_eq (tgt := 139) hx hb d_MO_isWordRight_107 (by decide) (fun c0 => ?_) (fun c0 => ?_)
            · have c_107 : (fm_th (fm_RB f) (fm_AT (fm_RB f) 6 k 3)) = false := fm_bI_f c0
              refine lv_iconst (v := nI (0)) hx hb d_MO_isWordRight_139 (by decide) ?_
              refine fm_tw (z := (fm_bI (fm_w1 (fm_RB f) k && fm_w2 (fm_RB f) k))) (by first | exact fm_cF1 c_90 | exact fm_cT c_90 (fm_w2_1 c_98 c_107) | exact fm_cF2 (fm_w2_1 c_98 c_107) | exact fm_cT c_90 (fm_w2_t c_98 c_132) | exact fm_cF2 (fm_w2_f c_98 c_132)) ?_
              refine lv_istore (lv' := [(6, .int (fm_bI (fm_w1 (fm_RB f) k && fm_w2 (fm_RB f) k))), (5, .int (nI (fm_AT (fm_RB f) 6 k 3))), (4, .int (nI (fm_AT (fm_RB f) 6 k 2))), (3, .int (nI (fm_AT (fm_RB f) 6 k 1))), (2, .int (nI (fm_AT (fm_RB f) 6 k 0))), (0, .ref fa), (1, .int (nI (k)))]) hx hb d_MO_isWordRight_140 hl (by decide) rfl (fun ls hl => ?_)
              refine lv_iload hx hb d_MO_isWordRight_142 (lv_at hl 0 rfl) ?_
              refine lv_if_eq (tgt := 172) hx hb d_MO_isWordRight_144 (by decide) (fun c0 => ?_) (fun c0 => ?_)
              · have c_144 : (fm_w1 (fm_RB f) k && fm_w2 (fm_RB f) k) = false := fm_bI_f c0
                refine lv_iconst (v := nI (0)) hx hb d_MO_isWordRight_172 (by decide) ?_
                exact W.zret (ty := .boolean) hx hb hr (rfl) (fun t ht hW => ⟨_, rfl, by rw [fm_word1, if_neg (Nat.not_lt.mpr c_13)]; first | exact fm_cF1 c_144 | exact fm_cT c_144 (by rw [fm_w3, decide_eq_true c_151]; rfl) | exact fm_cT c_144 (by rw [fm_w3, decide_eq_true (Nat.lt_of_not_le c_165), Bool.or_true]) | exact fm_cF2 (by rw [fm_w3, decide_eq_false c_151, decide_eq_false (Nat.not_lt.mpr c_165)]; rfl), ht⟩) (fun q hq => by cases hq) d_MO_isWordRight_173
              · have c_144 : (fm_w1 (fm_RB f) k && fm_w2 (fm_RB f) k) = true := fm_bI_t c0
                refine lv_iload_n hx hb d_MO_isWordRight_147 rfl (lv_at hl 4 rfl) ?_
                refine lv_sipush (v := nI (128)) hx hb d_MO_isWordRight_148 (by decide) ?_
                refine lv_icmp_eq (tgt := 168) hx hb d_MO_isWordRight_151 (by decide) (fun c0 => ?_) (fun c0 => ?_)
                · have c_151 : fm_AT (fm_RB f) 6 k 0 = 128 := (nI_eq (a := fm_AT (fm_RB f) 6 k 0) (b := 128) (by omega) (by omega)).mp c0
                  refine lv_iconst (v := nI (1)) hx hb d_MO_isWordRight_168 (by decide) ?_
                  refine lv_goto (tgt := 173) hx hb d_MO_isWordRight_169 (by decide) ?_
                  exact W.zret (ty := .boolean) hx hb hr (rfl) (fun t ht hW => ⟨_, rfl, by rw [fm_word1, if_neg (Nat.not_lt.mpr c_13)]; first | exact fm_cF1 c_144 | exact fm_cT c_144 (by rw [fm_w3, decide_eq_true c_151]; rfl) | exact fm_cT c_144 (by rw [fm_w3, decide_eq_true (Nat.lt_of_not_le c_165), Bool.or_true]) | exact fm_cF2 (by rw [fm_w3, decide_eq_false c_151, decide_eq_false (Nat.not_lt.mpr c_165)]; rfl), ht⟩) (fun q hq => by cases hq) d_MO_isWordRight_173
                · have c_151 : ¬ (fm_AT (fm_RB f) 6 k 0 = 128) := fun z => c0 ((nI_eq (a := fm_AT (fm_RB f) 6 k 0) (b := 128) (by omega) (by omega)).mpr z)
                  refine lv_iload_n hx hb d_MO_isWordRight_154 rfl (lv_at hl 6 rfl) ?_
                  refine lv_iload_n hx hb d_MO_isWordRight_155 rfl (lv_at hl 4 rfl) ?_
                  refine lv_iadd hx hb d_MO_isWordRight_156 ?_
                  refine fm_tw (z := nI (k + fm_AT (fm_RB f) 6 k 0)) (nI_add _ _) ?_
                  refine lv_iconst (v := nI (1)) hx hb d_MO_isWordRight_157 (by decide) ?_
                  refine lv_iadd hx hb d_MO_isWordRight_158 ?_
                  refine fm_tw (z := nI (k + fm_AT (fm_RB f) 6 k 0 + 1)) (nI_add _ _) ?_
                  refine lv_aload_n hx hb d_MO_isWordRight_159 rfl (lv_at hl 5 rfl) ?_
                  refine lv_bipush (v := nI (6)) hx hb d_MO_isWordRight_160 (by decide) ?_
                  refine fm_cs S (c_MO_words l dC dI fa cB f 6 (by omega) (fun _ => hq)) rfl rfl k_MO_words q_3_175 ⟨Nat.le_of_ble_eq_true rfl, Nat.le_of_ble_eq_true rfl⟩ (hP.sub [0] rfl) (hK.sub [0] rfl) rfl hl.1 rfl (Nat.le_of_ble_eq_true rfl) ⟨Nat.zero_le _, Nat.zero_le _⟩ d_MO_isWordRight_162 ?_
                  have f0_162 := fm_WD_le (fm_RB_lt f) 6
                  refine lv_icmp_ge (tgt := 172) hx hb d_MO_isWordRight_165 (by decide) (fun c0 => ?_) (fun c0 => ?_)
                  · have c_165 : fm_WD (fm_RB f) 6 ≤ k + fm_AT (fm_RB f) 6 k 0 + 1 := (nI_leI (a := fm_WD (fm_RB f) 6) (b := k + fm_AT (fm_RB f) 6 k 0 + 1) (by omega) (by omega)).mp c0
                    refine lv_iconst (v := nI (0)) hx hb d_MO_isWordRight_172 (by decide) ?_
                    exact W.zret (ty := .boolean) hx hb hr (rfl) (fun t ht hW => ⟨_, rfl, by rw [fm_word1, if_neg (Nat.not_lt.mpr c_13)]; first | exact fm_cF1 c_144 | exact fm_cT c_144 (by rw [fm_w3, decide_eq_true c_151]; rfl) | exact fm_cT c_144 (by rw [fm_w3, decide_eq_true (Nat.lt_of_not_le c_165), Bool.or_true]) | exact fm_cF2 (by rw [fm_w3, decide_eq_false c_151, decide_eq_false (Nat.not_lt.mpr c_165)]; rfl), ht⟩) (fun q hq => by cases hq) d_MO_isWordRight_173
                  · have c_165 : ¬ (fm_WD (fm_RB f) 6 ≤ k + fm_AT (fm_RB f) 6 k 0 + 1) := fun z => c0 ((nI_leI (a := fm_WD (fm_RB f) 6) (b := k + fm_AT (fm_RB f) 6 k 0 + 1) (by omega) (by omega)).mpr z)
                    refine lv_iconst (v := nI (1)) hx hb d_MO_isWordRight_168 (by decide) ?_
                    refine lv_goto (tgt := 173) hx hb d_MO_isWordRight_169 (by decide) ?_
                    exact W.zret (ty := .boolean) hx hb hr (rfl) (fun t ht hW => ⟨_, rfl, by rw [fm_word1, if_neg (Nat.not_lt.mpr c_13)]; first | exact fm_cF1 c_144 | exact fm_cT c_144 (by rw [fm_w3, decide_eq_true c_151]; rfl) | exact fm_cT c_144 (by rw [fm_w3, decide_eq_true (Nat.lt_of_not_le c_165), Bool.or_true]) | exact fm_cF2 (by rw [fm_w3, decide_eq_false c_151, decide_eq_false (Nat.not_lt.mpr c_165)]; rfl), ht⟩) (fun q hq => by cases hq) d_MO_isWordRight_173
            · have c_107 : (fm_th (fm_RB f) (fm_AT (fm_RB f) 6 k 3)) = true := fm_bI_t c0
              refine lv_goto (tgt := 135) hx hb d_MO_isWordRight_110 (by decide) ?_
              refine lv_iconst (v := nI (1)) hx hb d_MO_isWordRight_135 (by decide) ?_
              refine lv_goto (tgt := 140) hx hb d_MO_isWordRight_136 (by decide) ?_
              refine fm_tw (z := (fm_bI (fm_w1 (fm_RB f) k && fm_w2 (fm_RB f) k))) (by first | exact fm_cF1 c_90 | exact fm_cT c_90 (fm_w2_1 c_98 c_107) | exact fm_cF2 (fm_w2_1 c_98 c_107) | exact fm_cT c_90 (fm_w2_t c_98 c_132) | exact fm_cF2 (fm_w2_f c_98 c_132)) ?_
              refine lv_istore (lv' := [(6, .int (fm_bI (fm_w1 (fm_RB f) k && fm_w2 (fm_RB f) k))), (5, .int (nI (fm_AT (fm_RB f) 6 k 3))), (4, .int (nI (fm_AT (fm_RB f) 6 k 2))), (3, .int (nI (fm_AT (fm_RB f) 6 k 1))), (2, .int (nI (fm_AT (fm_RB f) 6 k 0))), (0, .ref fa), (1, .int (nI (k)))]) hx hb d_MO_isWordRight_140 hl (by decide) rfl (fun ls hl => ?_)
              refine lv_iload hx hb d_MO_isWordRight_142 (lv_at hl 0 rfl) ?_
              refine lv_if_eq (tgt := 172) hx hb d_MO_isWordRight_144 (by decide) (fun c0 => ?_) (fun c0 => ?_)
              · have c_144 : (fm_w1 (fm_RB f) k && fm_w2 (fm_RB f) k) = false := fm_bI_f c0
                refine lv_iconst (v := nI (0)) hx hb d_MO_isWordRight_172 (by decide) ?_
                exact W.zret (ty := .boolean) hx hb hr (rfl) (fun t ht hW => ⟨_, rfl, by rw [fm_word1, if_neg (Nat.not_lt.mpr c_13)]; first | exact fm_cF1 c_144 | exact fm_cT c_144 (by rw [fm_w3, decide_eq_true c_151]; rfl) | exact fm_cT c_144 (by rw [fm_w3, decide_eq_true (Nat.lt_of_not_le c_165), Bool.or_true]) | exact fm_cF2 (by rw [fm_w3, decide_eq_false c_151, decide_eq_false (Nat.not_lt.mpr c_165)]; rfl), ht⟩) (fun q hq => by cases hq) d_MO_isWordRight_173
              · have c_144 : (fm_w1 (fm_RB f) k && fm_w2 (fm_RB f) k) = true := fm_bI_t c0
                refine lv_iload_n hx hb d_MO_isWordRight_147 rfl (lv_at hl 4 rfl) ?_
                refine lv_sipush (v := nI (128)) hx hb d_MO_isWordRight_148 (by decide) ?_
                refine lv_icmp_eq (tgt := 168) hx hb d_MO_isWordRight_151 (by decide) (fun c0 => ?_) (fun c0 => ?_)
                · have c_151 : fm_AT (fm_RB f) 6 k 0 = 128 := (nI_eq (a := fm_AT (fm_RB f) 6 k 0) (b := 128) (by omega) (by omega)).mp c0
                  refine lv_iconst (v := nI (1)) hx hb d_MO_isWordRight_168 (by decide) ?_
                  refine lv_goto (tgt := 173) hx hb d_MO_isWordRight_169 (by decide) ?_
                  exact W.zret (ty := .boolean) hx hb hr (rfl) (fun t ht hW => ⟨_, rfl, by rw [fm_word1, if_neg (Nat.not_lt.mpr c_13)]; first | exact fm_cF1 c_144 | exact fm_cT c_144 (by rw [fm_w3, decide_eq_true c_151]; rfl) | exact fm_cT c_144 (by rw [fm_w3, decide_eq_true (Nat.lt_of_not_le c_165), Bool.or_true]) | exact fm_cF2 (by rw [fm_w3, decide_eq_false c_151, decide_eq_false (Nat.not_lt.mpr c_165)]; rfl), ht⟩) (fun q hq => by cases hq) d_MO_isWordRight_173
                · have c_151 : ¬ (fm_AT (fm_RB f) 6 k 0 = 128) := fun z => c0 ((nI_eq (a := fm_AT (fm_RB f) 6 k 0) (b := 128) (by omega) (by omega)).mpr z)
                  refine lv_iload_n hx hb d_MO_isWordRight_154 rfl (lv_at hl 6 rfl) ?_
                  refine lv_iload_n hx hb d_MO_isWordRight_155 rfl (lv_at hl 4 rfl) ?_
                  refine lv_iadd hx hb d_MO_isWordRight_156 ?_
                  refine fm_tw (z := nI (k + fm_AT (fm_RB f) 6 k 0)) (nI_add _ _) ?_
                  refine lv_iconst (v := nI (1)) hx hb d_MO_isWordRight_157 (by decide) ?_
                  refine lv_iadd hx hb d_MO_isWordRight_158 ?_
                  refine fm_tw (z := nI (k + fm_AT (fm_RB f) 6 k 0 + 1)) (nI_add _ _) ?_
                  refine lv_aload_n hx hb d_MO_isWordRight_159 rfl (lv_at hl 5 rfl) ?_
                  refine lv_bipush (v := nI (6)) hx hb d_MO_isWordRight_160 (by decide) ?_
                  refine fm_cs S (c_MO_words l dC dI fa cB f 6 (by omega) (fun _ => hq)) rfl rfl k_MO_words q_3_175 ⟨Nat.le_of_ble_eq_true rfl, Nat.le_of_ble_eq_true rfl⟩ (hP.sub [0] rfl) (hK.sub [0] rfl) rfl hl.1 rfl (Nat.le_of_ble_eq_true rfl) ⟨Nat.zero_le _, Nat.zero_le _⟩ d_MO_isWordRight_162 ?_
                  have f0_162 := fm_WD_le (fm_RB_lt f) 6
                  refine lv_icmp_ge (tgt := 172) hx hb d_MO_isWordRight_165 (by decide) (fun c0 => ?_) (fun c0 => ?_)
                  · have c_165 : fm_WD (fm_RB f) 6 ≤ k + fm_AT (fm_RB f) 6 k 0 + 1 := (nI_leI (a := fm_WD (fm_RB f) 6) (b := k + fm_AT (fm_RB f) 6 k 0 + 1) (by omega) (by omega)).mp c0
                    refine lv_iconst (v := nI (0)) hx hb d_MO_isWordRight_172 (by decide) ?_
                    exact W.zret (ty := .boolean) hx hb hr (rfl) (fun t ht hW => ⟨_, rfl, by rw [fm_word1, if_neg (Nat.not_lt.mpr c_13)]; first | exact fm_cF1 c_144 | exact fm_cT c_144 (by rw [fm_w3, decide_eq_true c_151]; rfl) | exact fm_cT c_144 (by rw [fm_w3, decide_eq_true (Nat.lt_of_not_le c_165), Bool.or_true]) | exact fm_cF2 (by rw [fm_w3, decide_eq_false c_151, decide_eq_false (Nat.not_lt.mpr c_165)]; rfl), ht⟩) (fun q hq => by cases hq) d_MO_isWordRight_173
                  · have c_165 : ¬ (fm_WD (fm_RB f) 6 ≤ k + fm_AT (fm_RB f) 6 k 0 + 1) := fun z => c0 ((nI_leI (a := fm_WD (fm_RB f) 6) (b := k + fm_AT (fm_RB f) 6 k 0 + 1) (by omega) (by omega)).mpr z)
                    refine lv_iconst (v := nI (1)) hx hb d_MO_isWordRight_168 (by decide) ?_
                    refine lv_goto (tgt := 173) hx hb d_MO_isWordRight_169 (by decide) ?_
                    exact W.zret (ty := .boolean) hx hb hr (rfl) (fun t ht hW => ⟨_, rfl, by rw [fm_word1, if_neg (Nat.not_lt.mpr c_13)]; first | exact fm_cF1 c_144 | exact fm_cT c_144 (by rw [fm_w3, decide_eq_true c_151]; rfl) | exact fm_cT c_144 (by rw [fm_w3, decide_eq_true (Nat.lt_of_not_le c_165), Bool.or_true]) | exact fm_cF2 (by rw [fm_w3, decide_eq_false c_151, decide_eq_false (Nat.not_lt.mpr c_165)]; rfl), ht⟩) (fun q hq => by cases hq) d_MO_isWordRight_173
      · have c_78 := c0
        refine lv_iconst (v := nI (1)) hx hb d_MO_isWordRight_81 (by decide) ?_
        refine lv_goto (tgt := 86) hx hb d_MO_isWordRight_82 (by decide) ?_
        refine fm_tw (z := (fm_bI (fm_w1 (fm_RB f) k))) (by first | (refine fm_bI_1 ?_; rw [fm_w1, c_70]; rfl) | (refine fm_bI_1 ?_; rw [fm_w1, decide_eq_true c_78, Bool.or_true]) | (refine fm_bI_0 ?_; rw [fm_w1, c_70, decide_eq_false c_78]; rfl)) ?_
        refine lv_istore (lv' := [(6, .int (fm_bI (fm_w1 (fm_RB f) k))), (5, .int (nI (fm_AT (fm_RB f) 6 k 3))), (4, .int (nI (fm_AT (fm_RB f) 6 k 2))), (3, .int (nI (fm_AT (fm_RB f) 6 k 1))), (2, .int (nI (fm_AT (fm_RB f) 6 k 0))), (0, .ref fa), (1, .int (nI (k)))]) hx hb d_MO_isWordRight_86 hl (by decide) rfl (fun ls hl => ?_)
        refine lv_iload hx hb d_MO_isWordRight_88 (lv_at hl 0 rfl) ?_
        refine lv_if_eq (tgt := 139) hx hb d_MO_isWordRight_90 (by decide) (fun c0 => ?_) (fun c0 => ?_)
        · have c_90 : (fm_w1 (fm_RB f) k) = false := fm_bI_f c0
          refine lv_iconst (v := nI (0)) hx hb d_MO_isWordRight_139 (by decide) ?_
          refine fm_tw (z := (fm_bI (fm_w1 (fm_RB f) k && fm_w2 (fm_RB f) k))) (by first | exact fm_cF1 c_90 | exact fm_cT c_90 (fm_w2_1 c_98 c_107) | exact fm_cF2 (fm_w2_1 c_98 c_107) | exact fm_cT c_90 (fm_w2_t c_98 c_132) | exact fm_cF2 (fm_w2_f c_98 c_132)) ?_
          refine lv_istore (lv' := [(6, .int (fm_bI (fm_w1 (fm_RB f) k && fm_w2 (fm_RB f) k))), (5, .int (nI (fm_AT (fm_RB f) 6 k 3))), (4, .int (nI (fm_AT (fm_RB f) 6 k 2))), (3, .int (nI (fm_AT (fm_RB f) 6 k 1))), (2, .int (nI (fm_AT (fm_RB f) 6 k 0))), (0, .ref fa), (1, .int (nI (k)))]) hx hb d_MO_isWordRight_140 hl (by decide) rfl (fun ls hl => ?_)
          refine lv_iload hx hb d_MO_isWordRight_142 (lv_at hl 0 rfl) ?_
          refine lv_if_eq (tgt := 172) hx hb d_MO_isWordRight_144 (by decide) (fun c0 => ?_) (fun c0 => ?_)
          · have c_144 : (fm_w1 (fm_RB f) k && fm_w2 (fm_RB f) k) = false := fm_bI_f c0
            refine lv_iconst (v := nI (0)) hx hb d_MO_isWordRight_172 (by decide) ?_
            exact W.zret (ty := .boolean) hx hb hr (rfl) (fun t ht hW => ⟨_, rfl, by rw [fm_word1, if_neg (Nat.not_lt.mpr c_13)]; first | exact fm_cF1 c_144 | exact fm_cT c_144 (by rw [fm_w3, decide_eq_true c_151]; rfl) | exact fm_cT c_144 (by rw [fm_w3, decide_eq_true (Nat.lt_of_not_le c_165), Bool.or_true]) | exact fm_cF2 (by rw [fm_w3, decide_eq_false c_151, decide_eq_false (Nat.not_lt.mpr c_165)]; rfl), ht⟩) (fun q hq => by cases hq) d_MO_isWordRight_173
          · have c_144 : (fm_w1 (fm_RB f) k && fm_w2 (fm_RB f) k) = true := fm_bI_t c0
            refine lv_iload_n hx hb d_MO_isWordRight_147 rfl (lv_at hl 4 rfl) ?_
            refine lv_sipush (v := nI (128)) hx hb d_MO_isWordRight_148 (by decide) ?_
            refine lv_icmp_eq (tgt := 168) hx hb d_MO_isWordRight_151 (by decide) (fun c0 => ?_) (fun c0 => ?_)
            · have c_151 : fm_AT (fm_RB f) 6 k 0 = 128 := (nI_eq (a := fm_AT (fm_RB f) 6 k 0) (b := 128) (by omega) (by omega)).mp c0
              refine lv_iconst (v := nI (1)) hx hb d_MO_isWordRight_168 (by decide) ?_
              refine lv_goto (tgt := 173) hx hb d_MO_isWordRight_169 (by decide) ?_
              exact W.zret (ty := .boolean) hx hb hr (rfl) (fun t ht hW => ⟨_, rfl, by rw [fm_word1, if_neg (Nat.not_lt.mpr c_13)]; first | exact fm_cF1 c_144 | exact fm_cT c_144 (by rw [fm_w3, decide_eq_true c_151]; rfl) | exact fm_cT c_144 (by rw [fm_w3, decide_eq_true (Nat.lt_of_not_le c_165), Bool.or_true]) | exact fm_cF2 (by rw [fm_w3, decide_eq_false c_151, decide_eq_false (Nat.not_lt.mpr c_165)]; rfl), ht⟩) (fun q hq => by cases hq) d_MO_isWordRight_173
            · have c_151 : ¬ (fm_AT (fm_RB f) 6 k 0 = 128) := fun z => c0 ((nI_eq (a := fm_AT (fm_RB f) 6 k 0) (b := 128) (by omega) (by omega)).mpr z)
              refine lv_iload_n hx hb d_MO_isWordRight_154 rfl (lv_at hl 6 rfl) ?_
              refine lv_iload_n hx hb d_MO_isWordRight_155 rfl (lv_at hl 4 rfl) ?_
              refine lv_iadd hx hb d_MO_isWordRight_156 ?_
              refine fm_tw (z := nI (k + fm_AT (fm_RB f) 6 k 0)) (nI_add _ _) ?_
              refine lv_iconst (v := nI (1)) hx hb d_MO_isWordRight_157 (by decide) ?_
              refine lv_iadd hx hb d_MO_isWordRight_158 ?_
              refine fm_tw (z := nI (k + fm_AT (fm_RB f) 6 k 0 + 1)) (nI_add _ _) ?_
              refine lv_aload_n hx hb d_MO_isWordRight_159 rfl (lv_at hl 5 rfl) ?_
              refine lv_bipush (v := nI (6)) hx hb d_MO_isWordRight_160 (by decide) ?_
              refine fm_cs S (c_MO_words l dC dI fa cB f 6 (by omega) (fun _ => hq)) rfl rfl k_MO_words q_3_175 ⟨Nat.le_of_ble_eq_true rfl, Nat.le_of_ble_eq_true rfl⟩ (hP.sub [0] rfl) (hK.sub [0] rfl) rfl hl.1 rfl (Nat.le_of_ble_eq_true rfl) ⟨Nat.zero_le _, Nat.zero_le _⟩ d_MO_isWordRight_162 ?_
              have f0_162 := fm_WD_le (fm_RB_lt f) 6
              refine lv_icmp_ge (tgt := 172) hx hb d_MO_isWordRight_165 (by decide) (fun c0 => ?_) (fun c0 => ?_)
              · have c_165 : fm_WD (fm_RB f) 6 ≤ k + fm_AT (fm_RB f) 6 k 0 + 1 := (nI_leI (a := fm_WD (fm_RB f) 6) (b := k + fm_AT (fm_RB f) 6 k 0 + 1) (by omega) (by omega)).mp c0
                refine lv_iconst (v := nI (0)) hx hb d_MO_isWordRight_172 (by decide) ?_
                exact W.zret (ty := .boolean) hx hb hr (rfl) (fun t ht hW => ⟨_, rfl, by rw [fm_word1, if_neg (Nat.not_lt.mpr c_13)]; first | exact fm_cF1 c_144 | exact fm_cT c_144 (by rw [fm_w3, decide_eq_true c_151]; rfl) | exact fm_cT c_144 (by rw [fm_w3, decide_eq_true (Nat.lt_of_not_le c_165), Bool.or_true]) | exact fm_cF2 (by rw [fm_w3, decide_eq_false c_151, decide_eq_false (Nat.not_lt.mpr c_165)]; rfl), ht⟩) (fun q hq => by cases hq) d_MO_isWordRight_173
              · have c_165 : ¬ (fm_WD (fm_RB f) 6 ≤ k + fm_AT (fm_RB f) 6 k 0 + 1) := fun z => c0 ((nI_leI (a := fm_WD (fm_RB f) 6) (b := k + fm_AT (fm_RB f) 6 k 0 + 1) (by omega) (by omega)).mpr z)
                refine lv_iconst (v := nI (1)) hx hb d_MO_isWordRight_168 (by decide) ?_
                refine lv_goto (tgt := 173) hx hb d_MO_isWordRight_169 (by decide) ?_
                exact W.zret (ty := .boolean) hx hb hr (rfl) (fun t ht hW => ⟨_, rfl, by rw [fm_word1, if_neg (Nat.not_lt.mpr c_13)]; first | exact fm_cF1 c_144 | exact fm_cT c_144 (by rw [fm_w3, decide_eq_true c_151]; rfl) | exact fm_cT c_144 (by rw [fm_w3, decide_eq_true (Nat.lt_of_not_le c_165), Bool.or_true]) | exact fm_cF2 (by rw [fm_w3, decide_eq_false c_151, decide_eq_false (Nat.not_lt.mpr c_165)]; rfl), ht⟩) (fun q hq => by cases hq) d_MO_isWordRight_173
        · have c_90 : (fm_w1 (fm_RB f) k) = true := fm_bI_t c0
          refine lv_iload hx hb d_MO_isWordRight_93 (lv_at hl 2 rfl) ?_
          refine lv_sipush (v := nI (128)) hx hb d_MO_isWordRight_95 (by decide) ?_
          refine lv_icmp_ge (tgt := 113) hx hb d_MO_isWordRight_98 (by decide) (fun c0 => ?_) (fun c0 => ?_)
          · have c_98 : 128 ≤ fm_AT (fm_RB f) 6 k 2 := (nI_leI (a := 128) (b := fm_AT (fm_RB f) 6 k 2) (by omega) (by omega)).mp c0
            refine lv_sipush (v := nI (256)) hx hb d_MO_isWordRight_113 (by decide) ?_
            refine lv_iload hx hb d_MO_isWordRight_116 (lv_at hl 2 rfl) ?_
            refine lv_sipush (v := nI (128)) hx hb d_MO_isWordRight_118 (by decide) ?_
            refine lv_isub hx hb d_MO_isWordRight_121 ?_
            refine fm_tw (z := nI (fm_AT (fm_RB f) 6 k 2 - 128)) (pk_sub (by omega)) ?_
            refine lv_imul hx hb d_MO_isWordRight_122 ?_
            refine fm_tw (z := nI (256 * (fm_AT (fm_RB f) 6 k 2 - 128))) (pk_mul _ _) ?_
            refine lv_iload hx hb d_MO_isWordRight_123 (lv_at hl 1 rfl) ?_
            refine lv_iadd hx hb d_MO_isWordRight_125 ?_
            refine fm_tw (z := nI (256 * (fm_AT (fm_RB f) 6 k 2 - 128) + fm_AT (fm_RB f) 6 k 3)) (nI_add _ _) ?_
            refine lv_aload_n hx hb d_MO_isWordRight_126 rfl (lv_at hl 5 rfl) ?_
            refine lv_bipush (v := nI (7)) hx hb d_MO_isWordRight_127 (by decide) ?_
            refine fm_cs S (c_MO_words l dC dI fa cB f 7 (by omega) (fun _ => hq)) rfl rfl k_MO_words q_3_175 ⟨Nat.le_of_ble_eq_true rfl, Nat.le_of_ble_eq_true rfl⟩ (hP.sub [0] rfl) (hK.sub [0] rfl) rfl hl.1 rfl (Nat.le_of_ble_eq_true rfl) ⟨Nat.zero_le _, Nat.zero_le _⟩ d_MO_isWordRight_129 ?_
            have f0_129 := fm_WD_le (fm_RB_lt f) 7
            refine lv_icmp_ge (tgt := 139) hx hb d_MO_isWordRight_132 (by decide) (fun c0 => ?_) (fun c0 => ?_)
            · have c_132 : fm_WD (fm_RB f) 7 ≤ 256 * (fm_AT (fm_RB f) 6 k 2 - 128) + fm_AT (fm_RB f) 6 k 3 := (nI_leI (a := fm_WD (fm_RB f) 7) (b := 256 * (fm_AT (fm_RB f) 6 k 2 - 128) + fm_AT (fm_RB f) 6 k 3) (by omega) (by omega)).mp c0
              refine lv_iconst (v := nI (0)) hx hb d_MO_isWordRight_139 (by decide) ?_
              refine fm_tw (z := (fm_bI (fm_w1 (fm_RB f) k && fm_w2 (fm_RB f) k))) (by first | exact fm_cF1 c_90 | exact fm_cT c_90 (fm_w2_1 c_98 c_107) | exact fm_cF2 (fm_w2_1 c_98 c_107) | exact fm_cT c_90 (fm_w2_t c_98 c_132) | exact fm_cF2 (fm_w2_f c_98 c_132)) ?_
              refine lv_istore (lv' := [(6, .int (fm_bI (fm_w1 (fm_RB f) k && fm_w2 (fm_RB f) k))), (5, .int (nI (fm_AT (fm_RB f) 6 k 3))), (4, .int (nI (fm_AT (fm_RB f) 6 k 2))), (3, .int (nI (fm_AT (fm_RB f) 6 k 1))), (2, .int (nI (fm_AT (fm_RB f) 6 k 0))), (0, .ref fa), (1, .int (nI (k)))]) hx hb d_MO_isWordRight_140 hl (by decide) rfl (fun ls hl => ?_)
              refine lv_iload hx hb d_MO_isWordRight_142 (lv_at hl 0 rfl) ?_
              refine lv_if_eq (tgt := 172) hx hb d_MO_isWordRight_144 (by decide) (fun c0 => ?_) (fun c0 => ?_)
              · have c_144 : (fm_w1 (fm_RB f) k && fm_w2 (fm_RB f) k) = false := fm_bI_f c0
                refine lv_iconst (v := nI (0)) hx hb d_MO_isWordRight_172 (by decide) ?_
                exact W.zret (ty := .boolean) hx hb hr (rfl) (fun t ht hW => ⟨_, rfl, by rw [fm_word1, if_neg (Nat.not_lt.mpr c_13)]; first | exact fm_cF1 c_144 | exact fm_cT c_144 (by rw [fm_w3, decide_eq_true c_151]; rfl) | exact fm_cT c_144 (by rw [fm_w3, decide_eq_true (Nat.lt_of_not_le c_165), Bool.or_true]) | exact fm_cF2 (by rw [fm_w3, decide_eq_false c_151, decide_eq_false (Nat.not_lt.mpr c_165)]; rfl), ht⟩) (fun q hq => by cases hq) d_MO_isWordRight_173
              · have c_144 : (fm_w1 (fm_RB f) k && fm_w2 (fm_RB f) k) = true := fm_bI_t c0
                refine lv_iload_n hx hb d_MO_isWordRight_147 rfl (lv_at hl 4 rfl) ?_
                refine lv_sipush (v := nI (128)) hx hb d_MO_isWordRight_148 (by decide) ?_
                refine lv_icmp_eq (tgt := 168) hx hb d_MO_isWordRight_151 (by decide) (fun c0 => ?_) (fun c0 => ?_)
                · have c_151 : fm_AT (fm_RB f) 6 k 0 = 128 := (nI_eq (a := fm_AT (fm_RB f) 6 k 0) (b := 128) (by omega) (by omega)).mp c0
                  refine lv_iconst (v := nI (1)) hx hb d_MO_isWordRight_168 (by decide) ?_
                  refine lv_goto (tgt := 173) hx hb d_MO_isWordRight_169 (by decide) ?_
                  exact W.zret (ty := .boolean) hx hb hr (rfl) (fun t ht hW => ⟨_, rfl, by rw [fm_word1, if_neg (Nat.not_lt.mpr c_13)]; first | exact fm_cF1 c_144 | exact fm_cT c_144 (by rw [fm_w3, decide_eq_true c_151]; rfl) | exact fm_cT c_144 (by rw [fm_w3, decide_eq_true (Nat.lt_of_not_le c_165), Bool.or_true]) | exact fm_cF2 (by rw [fm_w3, decide_eq_false c_151, decide_eq_false (Nat.not_lt.mpr c_165)]; rfl), ht⟩) (fun q hq => by cases hq) d_MO_isWordRight_173
                · have c_151 : ¬ (fm_AT (fm_RB f) 6 k 0 = 128) := fun z => c0 ((nI_eq (a := fm_AT (fm_RB f) 6 k 0) (b := 128) (by omega) (by omega)).mpr z)
                  refine lv_iload_n hx hb d_MO_isWordRight_154 rfl (lv_at hl 6 rfl) ?_
                  refine lv_iload_n hx hb d_MO_isWordRight_155 rfl (lv_at hl 4 rfl) ?_
                  refine lv_iadd hx hb d_MO_isWordRight_156 ?_
                  refine fm_tw (z := nI (k + fm_AT (fm_RB f) 6 k 0)) (nI_add _ _) ?_
                  refine lv_iconst (v := nI (1)) hx hb d_MO_isWordRight_157 (by decide) ?_
                  refine lv_iadd hx hb d_MO_isWordRight_158 ?_
                  refine fm_tw (z := nI (k + fm_AT (fm_RB f) 6 k 0 + 1)) (nI_add _ _) ?_
                  refine lv_aload_n hx hb d_MO_isWordRight_159 rfl (lv_at hl 5 rfl) ?_
                  refine lv_bipush (v := nI (6)) hx hb d_MO_isWordRight_160 (by decide) ?_
                  refine fm_cs S (c_MO_words l dC dI fa cB f 6 (by omega) (fun _ => hq)) rfl rfl k_MO_words q_3_175 ⟨Nat.le_of_ble_eq_true rfl, Nat.le_of_ble_eq_true rfl⟩ (hP.sub [0] rfl) (hK.sub [0] rfl) rfl hl.1 rfl (Nat.le_of_ble_eq_true rfl) ⟨Nat.zero_le _, Nat.zero_le _⟩ d_MO_isWordRight_162 ?_
                  have f0_162 := fm_WD_le (fm_RB_lt f) 6
                  refine lv_icmp_ge (tgt := 172) hx hb d_MO_isWordRight_165 (by decide) (fun c0 => ?_) (fun c0 => ?_)
                  · have c_165 : fm_WD (fm_RB f) 6 ≤ k + fm_AT (fm_RB f) 6 k 0 + 1 := (nI_leI (a := fm_WD (fm_RB f) 6) (b := k + fm_AT (fm_RB f) 6 k 0 + 1) (by omega) (by omega)).mp c0
                    refine lv_iconst (v := nI (0)) hx hb d_MO_isWordRight_172 (by decide) ?_
                    exact W.zret (ty := .boolean) hx hb hr (rfl) (fun t ht hW => ⟨_, rfl, by rw [fm_word1, if_neg (Nat.not_lt.mpr c_13)]; first | exact fm_cF1 c_144 | exact fm_cT c_144 (by rw [fm_w3, decide_eq_true c_151]; rfl) | exact fm_cT c_144 (by rw [fm_w3, decide_eq_true (Nat.lt_of_not_le c_165), Bool.or_true]) | exact fm_cF2 (by rw [fm_w3, decide_eq_false c_151, decide_eq_false (Nat.not_lt.mpr c_165)]; rfl), ht⟩) (fun q hq => by cases hq) d_MO_isWordRight_173
                  · have c_165 : ¬ (fm_WD (fm_RB f) 6 ≤ k + fm_AT (fm_RB f) 6 k 0 + 1) := fun z => c0 ((nI_leI (a := fm_WD (fm_RB f) 6) (b := k + fm_AT (fm_RB f) 6 k 0 + 1) (by omega) (by omega)).mpr z)
                    refine lv_iconst (v := nI (1)) hx hb d_MO_isWordRight_168 (by decide) ?_
                    refine lv_goto (tgt := 173) hx hb d_MO_isWordRight_169 (by decide) ?_
                    exact W.zret (ty := .boolean) hx hb hr (rfl) (fun t ht hW => ⟨_, rfl, by rw [fm_word1, if_neg (Nat.not_lt.mpr c_13)]; first | exact fm_cF1 c_144 | exact fm_cT c_144 (by rw [fm_w3, decide_eq_true c_151]; rfl) | exact fm_cT c_144 (by rw [fm_w3, decide_eq_true (Nat.lt_of_not_le c_165), Bool.or_true]) | exact fm_cF2 (by rw [fm_w3, decide_eq_false c_151, decide_eq_false (Nat.not_lt.mpr c_165)]; rfl), ht⟩) (fun q hq => by cases hq) d_MO_isWordRight_173
            · have c_132 : ¬ (fm_WD (fm_RB f) 7 ≤ 256 * (fm_AT (fm_RB f) 6 k 2 - 128) + fm_AT (fm_RB f) 6 k 3) := fun z => c0 ((nI_leI (a := fm_WD (fm_RB f) 7) (b := 256 * (fm_AT (fm_RB f) 6 k 2 - 128) + fm_AT (fm_RB f) 6 k 3) (by omega) (by omega)).mpr z)
              refine lv_iconst (v := nI (1)) hx hb d_MO_isWordRight_135 (by decide) ?_
              refine lv_goto (tgt := 140) hx hb d_MO_isWordRight_136 (by decide) ?_
              refine fm_tw (z := (fm_bI (fm_w1 (fm_RB f) k && fm_w2 (fm_RB f) k))) (by first | exact fm_cF1 c_90 | exact fm_cT c_90 (fm_w2_1 c_98 c_107) | exact fm_cF2 (fm_w2_1 c_98 c_107) | exact fm_cT c_90 (fm_w2_t c_98 c_132) | exact fm_cF2 (fm_w2_f c_98 c_132)) ?_
              refine lv_istore (lv' := [(6, .int (fm_bI (fm_w1 (fm_RB f) k && fm_w2 (fm_RB f) k))), (5, .int (nI (fm_AT (fm_RB f) 6 k 3))), (4, .int (nI (fm_AT (fm_RB f) 6 k 2))), (3, .int (nI (fm_AT (fm_RB f) 6 k 1))), (2, .int (nI (fm_AT (fm_RB f) 6 k 0))), (0, .ref fa), (1, .int (nI (k)))]) hx hb d_MO_isWordRight_140 hl (by decide) rfl (fun ls hl => ?_)
              refine lv_iload hx hb d_MO_isWordRight_142 (lv_at hl 0 rfl) ?_
              refine lv_if_eq (tgt := 172) hx hb d_MO_isWordRight_144 (by decide) (fun c0 => ?_) (fun c0 => ?_)
              · have c_144 : (fm_w1 (fm_RB f) k && fm_w2 (fm_RB f) k) = false := fm_bI_f c0
                refine lv_iconst (v := nI (0)) hx hb d_MO_isWordRight_172 (by decide) ?_
                exact W.zret (ty := .boolean) hx hb hr (rfl) (fun t ht hW => ⟨_, rfl, by rw [fm_word1, if_neg (Nat.not_lt.mpr c_13)]; first | exact fm_cF1 c_144 | exact fm_cT c_144 (by rw [fm_w3, decide_eq_true c_151]; rfl) | exact fm_cT c_144 (by rw [fm_w3, decide_eq_true (Nat.lt_of_not_le c_165), Bool.or_true]) | exact fm_cF2 (by rw [fm_w3, decide_eq_false c_151, decide_eq_false (Nat.not_lt.mpr c_165)]; rfl), ht⟩) (fun q hq => by cases hq) d_MO_isWordRight_173
              · have c_144 : (fm_w1 (fm_RB f) k && fm_w2 (fm_RB f) k) = true := fm_bI_t c0
                refine lv_iload_n hx hb d_MO_isWordRight_147 rfl (lv_at hl 4 rfl) ?_
                refine lv_sipush (v := nI (128)) hx hb d_MO_isWordRight_148 (by decide) ?_
                refine lv_icmp_eq (tgt := 168) hx hb d_MO_isWordRight_151 (by decide) (fun c0 => ?_) (fun c0 => ?_)
                · have c_151 : fm_AT (fm_RB f) 6 k 0 = 128 := (nI_eq (a := fm_AT (fm_RB f) 6 k 0) (b := 128) (by omega) (by omega)).mp c0
                  refine lv_iconst (v := nI (1)) hx hb d_MO_isWordRight_168 (by decide) ?_
                  refine lv_goto (tgt := 173) hx hb d_MO_isWordRight_169 (by decide) ?_
                  exact W.zret (ty := .boolean) hx hb hr (rfl) (fun t ht hW => ⟨_, rfl, by rw [fm_word1, if_neg (Nat.not_lt.mpr c_13)]; first | exact fm_cF1 c_144 | exact fm_cT c_144 (by rw [fm_w3, decide_eq_true c_151]; rfl) | exact fm_cT c_144 (by rw [fm_w3, decide_eq_true (Nat.lt_of_not_le c_165), Bool.or_true]) | exact fm_cF2 (by rw [fm_w3, decide_eq_false c_151, decide_eq_false (Nat.not_lt.mpr c_165)]; rfl), ht⟩) (fun q hq => by cases hq) d_MO_isWordRight_173
                · have c_151 : ¬ (fm_AT (fm_RB f) 6 k 0 = 128) := fun z => c0 ((nI_eq (a := fm_AT (fm_RB f) 6 k 0) (b := 128) (by omega) (by omega)).mpr z)
                  refine lv_iload_n hx hb d_MO_isWordRight_154 rfl (lv_at hl 6 rfl) ?_
                  refine lv_iload_n hx hb d_MO_isWordRight_155 rfl (lv_at hl 4 rfl) ?_
                  refine lv_iadd hx hb d_MO_isWordRight_156 ?_
                  refine fm_tw (z := nI (k + fm_AT (fm_RB f) 6 k 0)) (nI_add _ _) ?_
                  refine lv_iconst (v := nI (1)) hx hb d_MO_isWordRight_157 (by decide) ?_
                  refine lv_iadd hx hb d_MO_isWordRight_158 ?_
                  refine fm_tw (z := nI (k + fm_AT (fm_RB f) 6 k 0 + 1)) (nI_add _ _) ?_
                  refine lv_aload_n hx hb d_MO_isWordRight_159 rfl (lv_at hl 5 rfl) ?_
                  refine lv_bipush (v := nI (6)) hx hb d_MO_isWordRight_160 (by decide) ?_
                  refine fm_cs S (c_MO_words l dC dI fa cB f 6 (by omega) (fun _ => hq)) rfl rfl k_MO_words q_3_175 ⟨Nat.le_of_ble_eq_true rfl, Nat.le_of_ble_eq_true rfl⟩ (hP.sub [0] rfl) (hK.sub [0] rfl) rfl hl.1 rfl (Nat.le_of_ble_eq_true rfl) ⟨Nat.zero_le _, Nat.zero_le _⟩ d_MO_isWordRight_162 ?_
                  have f0_162 := fm_WD_le (fm_RB_lt f) 6
                  refine lv_icmp_ge (tgt := 172) hx hb d_MO_isWordRight_165 (by decide) (fun c0 => ?_) (fun c0 => ?_)
                  · have c_165 : fm_WD (fm_RB f) 6 ≤ k + fm_AT (fm_RB f) 6 k 0 + 1 := (nI_leI (a := fm_WD (fm_RB f) 6) (b := k + fm_AT (fm_RB f) 6 k 0 + 1) (by omega) (by omega)).mp c0
                    refine lv_iconst (v := nI (0)) hx hb d_MO_isWordRight_172 (by decide) ?_
                    exact W.zret (ty := .boolean) hx hb hr (rfl) (fun t ht hW => ⟨_, rfl, by rw [fm_word1, if_neg (Nat.not_lt.mpr c_13)]; first | exact fm_cF1 c_144 | exact fm_cT c_144 (by rw [fm_w3, decide_eq_true c_151]; rfl) | exact fm_cT c_144 (by rw [fm_w3, decide_eq_true (Nat.lt_of_not_le c_165), Bool.or_true]) | exact fm_cF2 (by rw [fm_w3, decide_eq_false c_151, decide_eq_false (Nat.not_lt.mpr c_165)]; rfl), ht⟩) (fun q hq => by cases hq) d_MO_isWordRight_173
                  · have c_165 : ¬ (fm_WD (fm_RB f) 6 ≤ k + fm_AT (fm_RB f) 6 k 0 + 1) := fun z => c0 ((nI_leI (a := fm_WD (fm_RB f) 6) (b := k + fm_AT (fm_RB f) 6 k 0 + 1) (by omega) (by omega)).mpr z)
                    refine lv_iconst (v := nI (1)) hx hb d_MO_isWordRight_168 (by decide) ?_
                    refine lv_goto (tgt := 173) hx hb d_MO_isWordRight_169 (by decide) ?_
                    exact W.zret (ty := .boolean) hx hb hr (rfl) (fun t ht hW => ⟨_, rfl, by rw [fm_word1, if_neg (Nat.not_lt.mpr c_13)]; first | exact fm_cF1 c_144 | exact fm_cT c_144 (by rw [fm_w3, decide_eq_true c_151]; rfl) | exact fm_cT c_144 (by rw [fm_w3, decide_eq_true (Nat.lt_of_not_le c_165), Bool.or_true]) | exact fm_cF2 (by rw [fm_w3, decide_eq_false c_151, decide_eq_false (Nat.not_lt.mpr c_165)]; rfl), ht⟩) (fun q hq => by cases hq) d_MO_isWordRight_173
          · have c_98 : ¬ (128 ≤ fm_AT (fm_RB f) 6 k 2) := fun z => c0 ((nI_leI (a := 128) (b := fm_AT (fm_RB f) 6 k 2) (by omega) (by omega)).mpr z)
            refine lv_aload_n hx hb d_MO_isWordRight_101 rfl (lv_at hl 5 rfl) ?_
            refine lv_iload hx hb d_MO_isWordRight_102 (lv_at hl 1 rfl) ?_
            refine fm_cs S (c_MO_isThereN l dC dI fa cB f (fm_AT (fm_RB f) 6 k 3) (by omega) (hL)) rfl rfl k_MO_isThere q_3_194 ⟨Nat.le_of_ble_eq_true rfl, Nat.le_of_ble_eq_true rfl⟩ (hP.sub [0] rfl) (hK.sub [0] rfl) rfl hl.1 rfl (Nat.le_of_ble_eq_true rfl) ⟨Nat.zero_le _, Nat.zero_le _⟩ d_MO_isWordRight_104 ?_
            refine lv_if_eq (tgt := 139) hx hb d_MO_isWordRight_107 (by decide) (fun c0 => ?_) (fun c0 => ?_)
            · have c_107 : (fm_th (fm_RB f) (fm_AT (fm_RB f) 6 k 3)) = false := fm_bI_f c0
              refine lv_iconst (v := nI (0)) hx hb d_MO_isWordRight_139 (by decide) ?_
              refine fm_tw (z := (fm_bI (fm_w1 (fm_RB f) k && fm_w2 (fm_RB f) k))) (by first | exact fm_cF1 c_90 | exact fm_cT c_90 (fm_w2_1 c_98 c_107) | exact fm_cF2 (fm_w2_1 c_98 c_107) | exact fm_cT c_90 (fm_w2_t c_98 c_132) | exact fm_cF2 (fm_w2_f c_98 c_132)) ?_
              refine lv_istore (lv' := [(6, .int (fm_bI (fm_w1 (fm_RB f) k && fm_w2 (fm_RB f) k))), (5, .int (nI (fm_AT (fm_RB f) 6 k 3))), (4, .int (nI (fm_AT (fm_RB f) 6 k 2))), (3, .int (nI (fm_AT (fm_RB f) 6 k 1))), (2, .int (nI (fm_AT (fm_RB f) 6 k 0))), (0, .ref fa), (1, .int (nI (k)))]) hx hb d_MO_isWordRight_140 hl (by decide) rfl (fun ls hl => ?_)
              refine lv_iload hx hb d_MO_isWordRight_142 (lv_at hl 0 rfl) ?_
              refine lv_if_eq (tgt := 172) hx hb d_MO_isWordRight_144 (by decide) (fun c0 => ?_) (fun c0 => ?_)
              · have c_144 : (fm_w1 (fm_RB f) k && fm_w2 (fm_RB f) k) = false := fm_bI_f c0
                refine lv_iconst (v := nI (0)) hx hb d_MO_isWordRight_172 (by decide) ?_
                exact W.zret (ty := .boolean) hx hb hr (rfl) (fun t ht hW => ⟨_, rfl, by rw [fm_word1, if_neg (Nat.not_lt.mpr c_13)]; first | exact fm_cF1 c_144 | exact fm_cT c_144 (by rw [fm_w3, decide_eq_true c_151]; rfl) | exact fm_cT c_144 (by rw [fm_w3, decide_eq_true (Nat.lt_of_not_le c_165), Bool.or_true]) | exact fm_cF2 (by rw [fm_w3, decide_eq_false c_151, decide_eq_false (Nat.not_lt.mpr c_165)]; rfl), ht⟩) (fun q hq => by cases hq) d_MO_isWordRight_173
              · have c_144 : (fm_w1 (fm_RB f) k && fm_w2 (fm_RB f) k) = true := fm_bI_t c0
                refine lv_iload_n hx hb d_MO_isWordRight_147 rfl (lv_at hl 4 rfl) ?_
                refine lv_sipush (v := nI (128)) hx hb d_MO_isWordRight_148 (by decide) ?_
                refine lv_icmp_eq (tgt := 168) hx hb d_MO_isWordRight_151 (by decide) (fun c0 => ?_) (fun c0 => ?_)
                · have c_151 : fm_AT (fm_RB f) 6 k 0 = 128 := (nI_eq (a := fm_AT (fm_RB f) 6 k 0) (b := 128) (by omega) (by omega)).mp c0
                  refine lv_iconst (v := nI (1)) hx hb d_MO_isWordRight_168 (by decide) ?_
                  refine lv_goto (tgt := 173) hx hb d_MO_isWordRight_169 (by decide) ?_
                  exact W.zret (ty := .boolean) hx hb hr (rfl) (fun t ht hW => ⟨_, rfl, by rw [fm_word1, if_neg (Nat.not_lt.mpr c_13)]; first | exact fm_cF1 c_144 | exact fm_cT c_144 (by rw [fm_w3, decide_eq_true c_151]; rfl) | exact fm_cT c_144 (by rw [fm_w3, decide_eq_true (Nat.lt_of_not_le c_165), Bool.or_true]) | exact fm_cF2 (by rw [fm_w3, decide_eq_false c_151, decide_eq_false (Nat.not_lt.mpr c_165)]; rfl), ht⟩) (fun q hq => by cases hq) d_MO_isWordRight_173
                · have c_151 : ¬ (fm_AT (fm_RB f) 6 k 0 = 128) := fun z => c0 ((nI_eq (a := fm_AT (fm_RB f) 6 k 0) (b := 128) (by omega) (by omega)).mpr z)
                  refine lv_iload_n hx hb d_MO_isWordRight_154 rfl (lv_at hl 6 rfl) ?_
                  refine lv_iload_n hx hb d_MO_isWordRight_155 rfl (lv_at hl 4 rfl) ?_
                  refine lv_iadd hx hb d_MO_isWordRight_156 ?_
                  refine fm_tw (z := nI (k + fm_AT (fm_RB f) 6 k 0)) (nI_add _ _) ?_
                  refine lv_iconst (v := nI (1)) hx hb d_MO_isWordRight_157 (by decide) ?_
                  refine lv_iadd hx hb d_MO_isWordRight_158 ?_
                  refine fm_tw (z := nI (k + fm_AT (fm_RB f) 6 k 0 + 1)) (nI_add _ _) ?_
                  refine lv_aload_n hx hb d_MO_isWordRight_159 rfl (lv_at hl 5 rfl) ?_
                  refine lv_bipush (v := nI (6)) hx hb d_MO_isWordRight_160 (by decide) ?_
                  refine fm_cs S (c_MO_words l dC dI fa cB f 6 (by omega) (fun _ => hq)) rfl rfl k_MO_words q_3_175 ⟨Nat.le_of_ble_eq_true rfl, Nat.le_of_ble_eq_true rfl⟩ (hP.sub [0] rfl) (hK.sub [0] rfl) rfl hl.1 rfl (Nat.le_of_ble_eq_true rfl) ⟨Nat.zero_le _, Nat.zero_le _⟩ d_MO_isWordRight_162 ?_
                  have f0_162 := fm_WD_le (fm_RB_lt f) 6
                  refine lv_icmp_ge (tgt := 172) hx hb d_MO_isWordRight_165 (by decide) (fun c0 => ?_) (fun c0 => ?_)
                  · have c_165 : fm_WD (fm_RB f) 6 ≤ k + fm_AT (fm_RB f) 6 k 0 + 1 := (nI_leI (a := fm_WD (fm_RB f) 6) (b := k + fm_AT (fm_RB f) 6 k 0 + 1) (by omega) (by omega)).mp c0
                    refine lv_iconst (v := nI (0)) hx hb d_MO_isWordRight_172 (by decide) ?_
                    exact W.zret (ty := .boolean) hx hb hr (rfl) (fun t ht hW => ⟨_, rfl, by rw [fm_word1, if_neg (Nat.not_lt.mpr c_13)]; first | exact fm_cF1 c_144 | exact fm_cT c_144 (by rw [fm_w3, decide_eq_true c_151]; rfl) | exact fm_cT c_144 (by rw [fm_w3, decide_eq_true (Nat.lt_of_not_le c_165), Bool.or_true]) | exact fm_cF2 (by rw [fm_w3, decide_eq_false c_151, decide_eq_false (Nat.not_lt.mpr c_165)]; rfl), ht⟩) (fun q hq => by cases hq) d_MO_isWordRight_173
                  · have c_165 : ¬ (fm_WD (fm_RB f) 6 ≤ k + fm_AT (fm_RB f) 6 k 0 + 1) := fun z => c0 ((nI_leI (a := fm_WD (fm_RB f) 6) (b := k + fm_AT (fm_RB f) 6 k 0 + 1) (by omega) (by omega)).mpr z)
                    refine lv_iconst (v := nI (1)) hx hb d_MO_isWordRight_168 (by decide) ?_
                    refine lv_goto (tgt := 173) hx hb d_MO_isWordRight_169 (by decide) ?_
                    exact W.zret (ty := .boolean) hx hb hr (rfl) (fun t ht hW => ⟨_, rfl, by rw [fm_word1, if_neg (Nat.not_lt.mpr c_13)]; first | exact fm_cF1 c_144 | exact fm_cT c_144 (by rw [fm_w3, decide_eq_true c_151]; rfl) | exact fm_cT c_144 (by rw [fm_w3, decide_eq_true (Nat.lt_of_not_le c_165), Bool.or_true]) | exact fm_cF2 (by rw [fm_w3, decide_eq_false c_151, decide_eq_false (Nat.not_lt.mpr c_165)]; rfl), ht⟩) (fun q hq => by cases hq) d_MO_isWordRight_173
            · have c_107 : (fm_th (fm_RB f) (fm_AT (fm_RB f) 6 k 3)) = true := fm_bI_t c0
              refine lv_goto (tgt := 135) hx hb d_MO_isWordRight_110 (by decide) ?_
              refine lv_iconst (v := nI (1)) hx hb d_MO_isWordRight_135 (by decide) ?_
              refine lv_goto (tgt := 140) hx hb d_MO_isWordRight_136 (by decide) ?_
              refine fm_tw (z := (fm_bI (fm_w1 (fm_RB f) k && fm_w2 (fm_RB f) k))) (by first | exact fm_cF1 c_90 | exact fm_cT c_90 (fm_w2_1 c_98 c_107) | exact fm_cF2 (fm_w2_1 c_98 c_107) | exact fm_cT c_90 (fm_w2_t c_98 c_132) | exact fm_cF2 (fm_w2_f c_98 c_132)) ?_
              refine lv_istore (lv' := [(6, .int (fm_bI (fm_w1 (fm_RB f) k && fm_w2 (fm_RB f) k))), (5, .int (nI (fm_AT (fm_RB f) 6 k 3))), (4, .int (nI (fm_AT (fm_RB f) 6 k 2))), (3, .int (nI (fm_AT (fm_RB f) 6 k 1))), (2, .int (nI (fm_AT (fm_RB f) 6 k 0))), (0, .ref fa), (1, .int (nI (k)))]) hx hb d_MO_isWordRight_140 hl (by decide) rfl (fun ls hl => ?_)
              refine lv_iload hx hb d_MO_isWordRight_142 (lv_at hl 0 rfl) ?_
              refine lv_if_eq (tgt := 172) hx hb d_MO_isWordRight_144 (by decide) (fun c0 => ?_) (fun c0 => ?_)
              · have c_144 : (fm_w1 (fm_RB f) k && fm_w2 (fm_RB f) k) = false := fm_bI_f c0
                refine lv_iconst (v := nI (0)) hx hb d_MO_isWordRight_172 (by decide) ?_
                exact W.zret (ty := .boolean) hx hb hr (rfl) (fun t ht hW => ⟨_, rfl, by rw [fm_word1, if_neg (Nat.not_lt.mpr c_13)]; first | exact fm_cF1 c_144 | exact fm_cT c_144 (by rw [fm_w3, decide_eq_true c_151]; rfl) | exact fm_cT c_144 (by rw [fm_w3, decide_eq_true (Nat.lt_of_not_le c_165), Bool.or_true]) | exact fm_cF2 (by rw [fm_w3, decide_eq_false c_151, decide_eq_false (Nat.not_lt.mpr c_165)]; rfl), ht⟩) (fun q hq => by cases hq) d_MO_isWordRight_173
              · have c_144 : (fm_w1 (fm_RB f) k && fm_w2 (fm_RB f) k) = true := fm_bI_t c0
                refine lv_iload_n hx hb d_MO_isWordRight_147 rfl (lv_at hl 4 rfl) ?_
                refine lv_sipush (v := nI (128)) hx hb d_MO_isWordRight_148 (by decide) ?_
                refine lv_icmp_eq (tgt := 168) hx hb d_MO_isWordRight_151 (by decide) (fun c0 => ?_) (fun c0 => ?_)
                · have c_151 : fm_AT (fm_RB f) 6 k 0 = 128 := (nI_eq (a := fm_AT (fm_RB f) 6 k 0) (b := 128) (by omega) (by omega)).mp c0
                  refine lv_iconst (v := nI (1)) hx hb d_MO_isWordRight_168 (by decide) ?_
                  refine lv_goto (tgt := 173) hx hb d_MO_isWordRight_169 (by decide) ?_
                  exact W.zret (ty := .boolean) hx hb hr (rfl) (fun t ht hW => ⟨_, rfl, by rw [fm_word1, if_neg (Nat.not_lt.mpr c_13)]; first | exact fm_cF1 c_144 | exact fm_cT c_144 (by rw [fm_w3, decide_eq_true c_151]; rfl) | exact fm_cT c_144 (by rw [fm_w3, decide_eq_true (Nat.lt_of_not_le c_165), Bool.or_true]) | exact fm_cF2 (by rw [fm_w3, decide_eq_false c_151, decide_eq_false (Nat.not_lt.mpr c_165)]; rfl), ht⟩) (fun q hq => by cases hq) d_MO_isWordRight_173
                · have c_151 : ¬ (fm_AT (fm_RB f) 6 k 0 = 128) := fun z => c0 ((nI_eq (a := fm_AT (fm_RB f) 6 k 0) (b := 128) (by omega) (by omega)).mpr z)
                  refine lv_iload_n hx hb d_MO_isWordRight_154 rfl (lv_at hl 6 rfl) ?_
                  refine lv_iload_n hx hb d_MO_isWordRight_155 rfl (lv_at hl 4 rfl) ?_
                  refine lv_iadd hx hb d_MO_isWordRight_156 ?_
                  refine fm_tw (z := nI (k + fm_AT (fm_RB f) 6 k 0)) (nI_add _ _) ?_
                  refine lv_iconst (v := nI (1)) hx hb d_MO_isWordRight_157 (by decide) ?_
                  refine lv_iadd hx hb d_MO_isWordRight_158 ?_
                  refine fm_tw (z := nI (k + fm_AT (fm_RB f) 6 k 0 + 1)) (nI_add _ _) ?_
                  refine lv_aload_n hx hb d_MO_isWordRight_159 rfl (lv_at hl 5 rfl) ?_
                  refine lv_bipush (v := nI (6)) hx hb d_MO_isWordRight_160 (by decide) ?_
                  refine fm_cs S (c_MO_words l dC dI fa cB f 6 (by omega) (fun _ => hq)) rfl rfl k_MO_words q_3_175 ⟨Nat.le_of_ble_eq_true rfl, Nat.le_of_ble_eq_true rfl⟩ (hP.sub [0] rfl) (hK.sub [0] rfl) rfl hl.1 rfl (Nat.le_of_ble_eq_true rfl) ⟨Nat.zero_le _, Nat.zero_le _⟩ d_MO_isWordRight_162 ?_
                  have f0_162 := fm_WD_le (fm_RB_lt f) 6
                  refine lv_icmp_ge (tgt := 172) hx hb d_MO_isWordRight_165 (by decide) (fun c0 => ?_) (fun c0 => ?_)
                  · have c_165 : fm_WD (fm_RB f) 6 ≤ k + fm_AT (fm_RB f) 6 k 0 + 1 := (nI_leI (a := fm_WD (fm_RB f) 6) (b := k + fm_AT (fm_RB f) 6 k 0 + 1) (by omega) (by omega)).mp c0
                    refine lv_iconst (v := nI (0)) hx hb d_MO_isWordRight_172 (by decide) ?_
                    exact W.zret (ty := .boolean) hx hb hr (rfl) (fun t ht hW => ⟨_, rfl, by rw [fm_word1, if_neg (Nat.not_lt.mpr c_13)]; first | exact fm_cF1 c_144 | exact fm_cT c_144 (by rw [fm_w3, decide_eq_true c_151]; rfl) | exact fm_cT c_144 (by rw [fm_w3, decide_eq_true (Nat.lt_of_not_le c_165), Bool.or_true]) | exact fm_cF2 (by rw [fm_w3, decide_eq_false c_151, decide_eq_false (Nat.not_lt.mpr c_165)]; rfl), ht⟩) (fun q hq => by cases hq) d_MO_isWordRight_173
                  · have c_165 : ¬ (fm_WD (fm_RB f) 6 ≤ k + fm_AT (fm_RB f) 6 k 0 + 1) := fun z => c0 ((nI_leI (a := fm_WD (fm_RB f) 6) (b := k + fm_AT (fm_RB f) 6 k 0 + 1) (by omega) (by omega)).mpr z)
                    refine lv_iconst (v := nI (1)) hx hb d_MO_isWordRight_168 (by decide) ?_
                    refine lv_goto (tgt := 173) hx hb d_MO_isWordRight_169 (by decide) ?_
                    exact W.zret (ty := .boolean) hx hb hr (rfl) (fun t ht hW => ⟨_, rfl, by rw [fm_word1, if_neg (Nat.not_lt.mpr c_13)]; first | exact fm_cF1 c_144 | exact fm_cT c_144 (by rw [fm_w3, decide_eq_true c_151]; rfl) | exact fm_cT c_144 (by rw [fm_w3, decide_eq_true (Nat.lt_of_not_le c_165), Bool.or_true]) | exact fm_cF2 (by rw [fm_w3, decide_eq_false c_151, decide_eq_false (Nat.not_lt.mpr c_165)]; rfl), ht⟩) (fun q hq => by cases hq) d_MO_isWordRight_173
  · have c_13 : ¬ (fm_AT (fm_RB f) 6 k 0 ≤ 128) := fun z => c0 ((nI_leI (a := fm_AT (fm_RB f) 6 k 0) (b := 128) (by omega) (by omega)).mpr z)
    refine lv_aload_n hx hb d_MO_isWordRight_16 rfl (lv_at hl 1 rfl) ?_
    refine lv_iload_n hx hb d_MO_isWordRight_17 rfl (lv_at hl 2 rfl) ?_
    refine fm_cs S (c_MO_far l dC dI fa cB f k (hq) (by omega)) rfl rfl k_MO_far q_3_218 ⟨Nat.le_of_ble_eq_true rfl, Nat.le_of_ble_eq_true rfl⟩ (hP.sub [0] rfl) (hK.sub [0] rfl) rfl hl.1 rfl (Nat.le_of_ble_eq_true rfl) ⟨Nat.zero_le _, Nat.zero_le _⟩ d_MO_isWordRight_18 ?_
    have f0_18 := fm_FAR_lt (fm_RB_lt f) k
    refine lv_aload_n hx hb d_MO_isWordRight_21 rfl (lv_at hl 1 rfl) ?_
    refine lv_bipush (v := nI (6)) hx hb d_MO_isWordRight_22 (by decide) ?_
    refine fm_cs S (c_MO_words l dC dI fa cB f 6 (by omega) (fun _ => hq)) rfl rfl k_MO_words q_3_175 ⟨Nat.le_of_ble_eq_true rfl, Nat.le_of_ble_eq_true rfl⟩ (hP.sub [0] rfl) (hK.sub [0] rfl) rfl hl.1 rfl (Nat.le_of_ble_eq_true rfl) ⟨Nat.zero_le _, Nat.zero_le _⟩ d_MO_isWordRight_24 ?_
    have f0_24 := fm_WD_le (fm_RB_lt f) 6
    refine lv_icmp_ge (tgt := 34) hx hb d_MO_isWordRight_27 (by decide) (fun c0 => ?_) (fun c0 => ?_)
    · have c_27 : fm_WD (fm_RB f) 6 ≤ fm_FAR (fm_RB f) k := (nI_leI (a := fm_WD (fm_RB f) 6) (b := fm_FAR (fm_RB f) k) (by omega) (by omega)).mp c0
      refine lv_iconst (v := nI (0)) hx hb d_MO_isWordRight_34 (by decide) ?_
      exact W.zret (ty := .boolean) hx hb hr (rfl) (fun t ht hW => ⟨_, rfl, by first | (refine fm_bI_1 ?_; rw [fm_word1, if_pos (Nat.lt_of_not_le c_13)]; exact decide_eq_true (Nat.lt_of_not_le c_27)) | (refine fm_bI_0 ?_; rw [fm_word1, if_pos (Nat.lt_of_not_le c_13)]; exact decide_eq_false (Nat.not_lt.mpr c_27)), ht⟩) (fun q hq => by cases hq) d_MO_isWordRight_35
    · have c_27 : ¬ (fm_WD (fm_RB f) 6 ≤ fm_FAR (fm_RB f) k) := fun z => c0 ((nI_leI (a := fm_WD (fm_RB f) 6) (b := fm_FAR (fm_RB f) k) (by omega) (by omega)).mpr z)
      refine lv_iconst (v := nI (1)) hx hb d_MO_isWordRight_30 (by decide) ?_
      refine lv_goto (tgt := 35) hx hb d_MO_isWordRight_31 (by decide) ?_
      exact W.zret (ty := .boolean) hx hb hr (rfl) (fun t ht hW => ⟨_, rfl, by first | (refine fm_bI_1 ?_; rw [fm_word1, if_pos (Nat.lt_of_not_le c_13)]; exact decide_eq_true (Nat.lt_of_not_le c_27)) | (refine fm_bI_0 ?_; rw [fm_word1, if_pos (Nat.lt_of_not_le c_13)]; exact decide_eq_false (Nat.not_lt.mpr c_27)), ht⟩) (fun q hq => by cases hq) d_MO_isWordRight_35
theorem d_MO_isProgramRight_0 : decode b_MO_isProgramRight 0 = .ok (.iconst 1, 1) := by decide +kernel
theorem d_MO_isProgramRight_1 : decode b_MO_isProgramRight 1 = .ok (.istore_n 1, 1) := by decide +kernel
theorem d_MO_isProgramRight_2 : decode b_MO_isProgramRight 2 = .ok (.iconst 0, 1) := by decide +kernel
theorem d_MO_isProgramRight_3 : decode b_MO_isProgramRight 3 = .ok (.istore_n 2, 1) := by decide +kernel
theorem d_MO_isProgramRight_4 : decode b_MO_isProgramRight 4 = .ok (.iload_n 2, 1) := by decide +kernel
theorem d_MO_isProgramRight_5 : decode b_MO_isProgramRight 5 = .ok (.aload_n 0, 1) := by decide +kernel
theorem d_MO_isProgramRight_6 : decode b_MO_isProgramRight 6 = .ok (.bipush 6, 2) := by decide +kernel
theorem d_MO_isProgramRight_8 : decode b_MO_isProgramRight 8 = .ok (.invokestatic 37, 3) := by decide +kernel
theorem d_MO_isProgramRight_11 : decode b_MO_isProgramRight 11 = .ok (.if_icmp .ge 27, 3) := by decide +kernel
theorem d_MO_isProgramRight_14 : decode b_MO_isProgramRight 14 = .ok (.iload_n 1, 1) := by decide +kernel
theorem d_MO_isProgramRight_15 : decode b_MO_isProgramRight 15 = .ok (.ifCond .eq 15, 3) := by decide +kernel
theorem d_MO_isProgramRight_18 : decode b_MO_isProgramRight 18 = .ok (.aload_n 0, 1) := by decide +kernel
theorem d_MO_isProgramRight_19 : decode b_MO_isProgramRight 19 = .ok (.iload_n 2, 1) := by decide +kernel
theorem d_MO_isProgramRight_20 : decode b_MO_isProgramRight 20 = .ok (.invokestatic 71, 3) := by decide +kernel
theorem d_MO_isProgramRight_23 : decode b_MO_isProgramRight 23 = .ok (.ifCond .eq 7, 3) := by decide +kernel
theorem d_MO_isProgramRight_26 : decode b_MO_isProgramRight 26 = .ok (.iconst 1, 1) := by decide +kernel
theorem d_MO_isProgramRight_27 : decode b_MO_isProgramRight 27 = .ok (.goto 4, 3) := by decide +kernel
theorem d_MO_isProgramRight_30 : decode b_MO_isProgramRight 30 = .ok (.iconst 0, 1) := by decide +kernel
theorem d_MO_isProgramRight_31 : decode b_MO_isProgramRight 31 = .ok (.istore_n 1, 1) := by decide +kernel
theorem d_MO_isProgramRight_32 : decode b_MO_isProgramRight 32 = .ok (.iinc 2 1, 3) := by decide +kernel
theorem d_MO_isProgramRight_35 : decode b_MO_isProgramRight 35 = .ok (.goto (-31), 3) := by decide +kernel
theorem d_MO_isProgramRight_38 : decode b_MO_isProgramRight 38 = .ok (.iload_n 1, 1) := by decide +kernel
theorem d_MO_isProgramRight_39 : decode b_MO_isProgramRight 39 = .ok (.ireturn, 1) := by decide +kernel
set_option maxHeartbeats 4000000 in
set_option maxRecDepth 100000 in
theorem c_MO_isProgramRight (l : Launch) (dC : Nat → ClassId) (dI : Nat → Nat → Nat) (fa : Nat) (cB : ClassId) (f : Nat → Int32) (hL : fm_Len (fm_RB f)) : fm_M l (dC, dI) y_MO_isProgramRight w_MO_isProgramRight ({ frames := 6, cells := 0, slots := 0, locals := 135 }) [.ref fa] [(fa, .inl (cB, 8192, .inl (f)))] [(cB, .byte)] ((fm_bI (fm_all (fm_WD (fm_RB f) 6) (fm_word1 (fm_RB f))))) := by
  refine Met.ofW (cc := b_MO_isProgramRight) (maxL := 3) (ret := (some .boolean)) (by decide) rfl ?_
  intro pg ev s m args below meth cd s₁ BD hml hv
  obtain ⟨rfl, hP, hK⟩ := hv
  have hx := BD.exec
  have hb := BD.bytes
  have hr := BD.returns
  have hts := atoms_spec (ws := w_MO_isProgramRight) BD.pre
  have ht : ∀ w ∈ fm_T, w.before _ s = true := fun w h => hts w (List.mem_cons_of_mem _ h)
  have hown : s.vm.findClass R_MO = some m.cls := findClass_of_methodNamed BD.named
  have hlocks := BD.notSynchronized
  have S : CallFix pg m cd b_MO_isProgramRight 3 s _ w_MO_isProgramRight R_MO := ⟨hx, hb, hml, hown, hts⟩
  have hl := lv_entry ([.ref fa]) (n := 3) (Nat.le_of_ble_eq_true rfl)
  rw [lg_entry_eq]
  generalize (lg_sl ([.ref fa]) ++ List.replicate (3 - (lg_sl ([.ref fa])).length) Slot.unset).toArray = ls at hl ⊢
  have hl : lv_has ls 3 [(0, .ref fa)] := hl
  obtain ⟨-, hq, h3, h10⟩ := id hL
  refine lv_iconst (v := nI (1)) hx hb d_MO_isProgramRight_0 (by decide) ?_
  refine lv_istore_n (lv' := [(1, .int (nI (1))), (0, .ref fa)]) hx hb d_MO_isProgramRight_1 rfl hl (by decide) rfl (fun ls hl => ?_)
  refine lv_iconst (v := nI (0)) hx hb d_MO_isProgramRight_2 (by decide) ?_
  refine lv_istore_n (lv' := [(2, .int (nI (0))), (1, .int (nI (1))), (0, .ref fa)]) hx hb d_MO_isProgramRight_3 rfl hl (by decide) rfl (fun ls hl => ?_)
  refine fm_loop1 (LV := fun (i : Nat) => [(0, .ref fa), (1, .int (fm_bI (fm_all (i) (fm_word1 (fm_RB f))))), (2, .int (nI (i)))]) (I := fun (i : Nat) => i ≤ fm_WD (fm_RB f) 6) (μ := fun (i : Nat) => fm_WD (fm_RB f) 6 - i) ?_ 0 (Nat.zero_le _) ls (lv_sub hl [2, 1, 0] rfl)
  intro i hI_4 ih_4 ls hl
  have hl : lv_has ls 3 [(0, .ref fa), (1, .int (fm_bI (fm_all (i) (fm_word1 (fm_RB f))))), (2, .int (nI (i)))] := hl
  refine lv_iload_n hx hb d_MO_isProgramRight_4 rfl (lv_at hl 2 rfl) ?_
  refine lv_aload_n hx hb d_MO_isProgramRight_5 rfl (lv_at hl 0 rfl) ?_
  refine lv_bipush (v := nI (6)) hx hb d_MO_isProgramRight_6 (by decide) ?_
  refine fm_cs S (c_MO_words l dC dI fa cB f 6 (by omega) (fun _ => hq)) rfl rfl k_MO_words q_3_175 ⟨Nat.le_of_ble_eq_true rfl, Nat.le_of_ble_eq_true rfl⟩ (hP.sub [0] rfl) (hK.sub [0] rfl) rfl hl.1 rfl (Nat.le_of_ble_eq_true rfl) ⟨Nat.zero_le _, Nat.zero_le _⟩ d_MO_isProgramRight_8 ?_
  have f0_8 := fm_WD_le (fm_RB_lt f) 6
  refine lv_icmp_ge (tgt := 38) hx hb d_MO_isProgramRight_11 (by decide) (fun c0 => ?_) (fun c0 => ?_)
  · have c_11 : fm_WD (fm_RB f) 6 ≤ i := (nI_leI (a := fm_WD (fm_RB f) 6) (b := i) (by omega) (by omega)).mp c0
    refine lv_iload_n hx hb d_MO_isProgramRight_38 rfl (lv_at hl 1 rfl) ?_
    exact W.zret (ty := .boolean) hx hb hr (fm_bI_z _) (fun t ht hW => ⟨_, rfl, by rw [show fm_WD (fm_RB f) 6 = i by omega], ht⟩) (fun q hq => by cases hq) d_MO_isProgramRight_39
  · have c_11 : ¬ (fm_WD (fm_RB f) 6 ≤ i) := fun z => c0 ((nI_leI (a := fm_WD (fm_RB f) 6) (b := i) (by omega) (by omega)).mpr z)
    refine lv_iload_n hx hb d_MO_isProgramRight_14 rfl (lv_at hl 1 rfl) ?_
    refine lv_if_eq (tgt := 30) hx hb d_MO_isProgramRight_15 (by decide) (fun c0 => ?_) (fun c0 => ?_)
    · have c_15 : (fm_all (i) (fm_word1 (fm_RB f))) = false := fm_bI_f c0
      refine lv_iconst (v := nI (0)) hx hb d_MO_isProgramRight_30 (by decide) ?_
      refine fm_tw (z := (fm_bI (fm_all (i + 1) (fm_word1 (fm_RB f))))) (by first | exact fm_stF1 c_15 | exact fm_stT c_15 c_23 | exact fm_stF2 c_23) ?_
      refine lv_istore_n (lv' := [(1, .int (fm_bI (fm_all (i + 1) (fm_word1 (fm_RB f))))), (0, .ref fa), (2, .int (nI (i)))]) hx hb d_MO_isProgramRight_31 rfl hl (by decide) rfl (fun ls hl => ?_)
      refine lv_iinc (v := nI (i + 1)) (lv' := [(2, .int (nI (i + 1))), (1, .int (fm_bI (fm_all (i + 1) (fm_word1 (fm_RB f))))), (0, .ref fa)]) hx hb d_MO_isProgramRight_32 hl (k := 2) rfl (nI_1 _) (by decide) rfl (fun ls hl => ?_)
      refine lv_goto (tgt := 4) hx hb d_MO_isProgramRight_35 (by decide) ?_
      exact ih_4 (i + 1) ls (by omega) (by omega) (lv_sub hl [2, 1, 0] rfl)
    · have c_15 : (fm_all (i) (fm_word1 (fm_RB f))) = true := fm_bI_t c0
      refine lv_aload_n hx hb d_MO_isProgramRight_18 rfl (lv_at hl 0 rfl) ?_
      refine lv_iload_n hx hb d_MO_isProgramRight_19 rfl (lv_at hl 2 rfl) ?_
      refine fm_cs S (c_MO_isWordRight l dC dI fa cB f i (hL) (by omega)) rfl rfl k_MO_isWordRight q_3_215 ⟨Nat.le_of_ble_eq_true rfl, Nat.le_of_ble_eq_true rfl⟩ (hP.sub [0] rfl) (hK.sub [0] rfl) rfl hl.1 rfl (Nat.le_of_ble_eq_true rfl) ⟨Nat.zero_le _, Nat.zero_le _⟩ d_MO_isProgramRight_20 ?_
      refine lv_if_eq (tgt := 30) hx hb d_MO_isProgramRight_23 (by decide) (fun c0 => ?_) (fun c0 => ?_)
      · have c_23 : (fm_word1 (fm_RB f) i) = false := fm_bI_f c0
        refine lv_iconst (v := nI (0)) hx hb d_MO_isProgramRight_30 (by decide) ?_
        refine fm_tw (z := (fm_bI (fm_all (i + 1) (fm_word1 (fm_RB f))))) (by first | exact fm_stF1 c_15 | exact fm_stT c_15 c_23 | exact fm_stF2 c_23) ?_
        refine lv_istore_n (lv' := [(1, .int (fm_bI (fm_all (i + 1) (fm_word1 (fm_RB f))))), (0, .ref fa), (2, .int (nI (i)))]) hx hb d_MO_isProgramRight_31 rfl hl (by decide) rfl (fun ls hl => ?_)
        refine lv_iinc (v := nI (i + 1)) (lv' := [(2, .int (nI (i + 1))), (1, .int (fm_bI (fm_all (i + 1) (fm_word1 (fm_RB f))))), (0, .ref fa)]) hx hb d_MO_isProgramRight_32 hl (k := 2) rfl (nI_1 _) (by decide) rfl (fun ls hl => ?_)
        refine lv_goto (tgt := 4) hx hb d_MO_isProgramRight_35 (by decide) ?_
        exact ih_4 (i + 1) ls (by omega) (by omega) (lv_sub hl [2, 1, 0] rfl)
      · have c_23 : (fm_word1 (fm_RB f) i) = true := fm_bI_t c0
        refine lv_iconst (v := nI (1)) hx hb d_MO_isProgramRight_26 (by decide) ?_
        refine lv_goto (tgt := 31) hx hb d_MO_isProgramRight_27 (by decide) ?_
        refine fm_tw (z := (fm_bI (fm_all (i + 1) (fm_word1 (fm_RB f))))) (by first | exact fm_stF1 c_15 | exact fm_stT c_15 c_23 | exact fm_stF2 c_23) ?_
        refine lv_istore_n (lv' := [(1, .int (fm_bI (fm_all (i + 1) (fm_word1 (fm_RB f))))), (0, .ref fa), (2, .int (nI (i)))]) hx hb d_MO_isProgramRight_31 rfl hl (by decide) rfl (fun ls hl => ?_)
        refine lv_iinc (v := nI (i + 1)) (lv' := [(2, .int (nI (i + 1))), (1, .int (fm_bI (fm_all (i + 1) (fm_word1 (fm_RB f))))), (0, .ref fa)]) hx hb d_MO_isProgramRight_32 hl (k := 2) rfl (nI_1 _) (by decide) rfl (fun ls hl => ?_)
        refine lv_goto (tgt := 4) hx hb d_MO_isProgramRight_35 (by decide) ?_
        exact ih_4 (i + 1) ls (by omega) (by omega) (lv_sub hl [2, 1, 0] rfl)
theorem d_MO_areRecipesRight_0 : decode b_MO_areRecipesRight 0 = .ok (.iconst 1, 1) := by decide +kernel
theorem d_MO_areRecipesRight_1 : decode b_MO_areRecipesRight 1 = .ok (.istore_n 1, 1) := by decide +kernel
theorem d_MO_areRecipesRight_2 : decode b_MO_areRecipesRight 2 = .ok (.iconst 0, 1) := by decide +kernel
theorem d_MO_areRecipesRight_3 : decode b_MO_areRecipesRight 3 = .ok (.istore_n 2, 1) := by decide +kernel
theorem d_MO_areRecipesRight_4 : decode b_MO_areRecipesRight 4 = .ok (.iload_n 2, 1) := by decide +kernel
theorem d_MO_areRecipesRight_5 : decode b_MO_areRecipesRight 5 = .ok (.aload_n 0, 1) := by decide +kernel
theorem d_MO_areRecipesRight_6 : decode b_MO_areRecipesRight 6 = .ok (.bipush 8, 2) := by decide +kernel
theorem d_MO_areRecipesRight_8 : decode b_MO_areRecipesRight 8 = .ok (.invokestatic 37, 3) := by decide +kernel
theorem d_MO_areRecipesRight_11 : decode b_MO_areRecipesRight 11 = .ok (.if_icmp .ge 83, 3) := by decide +kernel
theorem d_MO_areRecipesRight_14 : decode b_MO_areRecipesRight 14 = .ok (.iload_n 1, 1) := by decide +kernel
theorem d_MO_areRecipesRight_15 : decode b_MO_areRecipesRight 15 = .ok (.ifCond .eq 22, 3) := by decide +kernel
theorem d_MO_areRecipesRight_18 : decode b_MO_areRecipesRight 18 = .ok (.aload_n 0, 1) := by decide +kernel
theorem d_MO_areRecipesRight_19 : decode b_MO_areRecipesRight 19 = .ok (.aload_n 0, 1) := by decide +kernel
theorem d_MO_areRecipesRight_20 : decode b_MO_areRecipesRight 20 = .ok (.bipush 8, 2) := by decide +kernel
theorem d_MO_areRecipesRight_22 : decode b_MO_areRecipesRight 22 = .ok (.iload_n 2, 1) := by decide +kernel
theorem d_MO_areRecipesRight_23 : decode b_MO_areRecipesRight 23 = .ok (.iconst 3, 1) := by decide +kernel
theorem d_MO_areRecipesRight_24 : decode b_MO_areRecipesRight 24 = .ok (.invokestatic 43, 3) := by decide +kernel
theorem d_MO_areRecipesRight_27 : decode b_MO_areRecipesRight 27 = .ok (.invokestatic 53, 3) := by decide +kernel
theorem d_MO_areRecipesRight_30 : decode b_MO_areRecipesRight 30 = .ok (.ifCond .eq 7, 3) := by decide +kernel
theorem d_MO_areRecipesRight_33 : decode b_MO_areRecipesRight 33 = .ok (.iconst 1, 1) := by decide +kernel
theorem d_MO_areRecipesRight_34 : decode b_MO_areRecipesRight 34 = .ok (.goto 4, 3) := by decide +kernel
theorem d_MO_areRecipesRight_37 : decode b_MO_areRecipesRight 37 = .ok (.iconst 0, 1) := by decide +kernel
theorem d_MO_areRecipesRight_38 : decode b_MO_areRecipesRight 38 = .ok (.istore_n 1, 1) := by decide +kernel
theorem d_MO_areRecipesRight_39 : decode b_MO_areRecipesRight 39 = .ok (.iconst 0, 1) := by decide +kernel
theorem d_MO_areRecipesRight_40 : decode b_MO_areRecipesRight 40 = .ok (.istore_n 3, 1) := by decide +kernel
theorem d_MO_areRecipesRight_41 : decode b_MO_areRecipesRight 41 = .ok (.iload_n 3, 1) := by decide +kernel
theorem d_MO_areRecipesRight_42 : decode b_MO_areRecipesRight 42 = .ok (.iconst 3, 1) := by decide +kernel
theorem d_MO_areRecipesRight_43 : decode b_MO_areRecipesRight 43 = .ok (.if_icmp .ge 45, 3) := by decide +kernel
theorem d_MO_areRecipesRight_46 : decode b_MO_areRecipesRight 46 = .ok (.iload_n 1, 1) := by decide +kernel
theorem d_MO_areRecipesRight_47 : decode b_MO_areRecipesRight 47 = .ok (.ifCond .eq 33, 3) := by decide +kernel
theorem d_MO_areRecipesRight_50 : decode b_MO_areRecipesRight 50 = .ok (.aload_n 0, 1) := by decide +kernel
theorem d_MO_areRecipesRight_51 : decode b_MO_areRecipesRight 51 = .ok (.bipush 8, 2) := by decide +kernel
theorem d_MO_areRecipesRight_53 : decode b_MO_areRecipesRight 53 = .ok (.iload_n 2, 1) := by decide +kernel
theorem d_MO_areRecipesRight_54 : decode b_MO_areRecipesRight 54 = .ok (.iload_n 3, 1) := by decide +kernel
theorem d_MO_areRecipesRight_55 : decode b_MO_areRecipesRight 55 = .ok (.invokestatic 43, 3) := by decide +kernel
theorem d_MO_areRecipesRight_58 : decode b_MO_areRecipesRight 58 = .ok (.ifCond .eq 18, 3) := by decide +kernel
theorem d_MO_areRecipesRight_61 : decode b_MO_areRecipesRight 61 = .ok (.aload_n 0, 1) := by decide +kernel
theorem d_MO_areRecipesRight_62 : decode b_MO_areRecipesRight 62 = .ok (.aload_n 0, 1) := by decide +kernel
theorem d_MO_areRecipesRight_63 : decode b_MO_areRecipesRight 63 = .ok (.bipush 8, 2) := by decide +kernel
theorem d_MO_areRecipesRight_65 : decode b_MO_areRecipesRight 65 = .ok (.iload_n 2, 1) := by decide +kernel
theorem d_MO_areRecipesRight_66 : decode b_MO_areRecipesRight 66 = .ok (.iload_n 3, 1) := by decide +kernel
theorem d_MO_areRecipesRight_67 : decode b_MO_areRecipesRight 67 = .ok (.invokestatic 43, 3) := by decide +kernel
theorem d_MO_areRecipesRight_70 : decode b_MO_areRecipesRight 70 = .ok (.invokestatic 53, 3) := by decide +kernel
theorem d_MO_areRecipesRight_73 : decode b_MO_areRecipesRight 73 = .ok (.ifCond .eq 7, 3) := by decide +kernel
theorem d_MO_areRecipesRight_76 : decode b_MO_areRecipesRight 76 = .ok (.iconst 1, 1) := by decide +kernel
theorem d_MO_areRecipesRight_77 : decode b_MO_areRecipesRight 77 = .ok (.goto 4, 3) := by decide +kernel
theorem d_MO_areRecipesRight_80 : decode b_MO_areRecipesRight 80 = .ok (.iconst 0, 1) := by decide +kernel
theorem d_MO_areRecipesRight_81 : decode b_MO_areRecipesRight 81 = .ok (.istore_n 1, 1) := by decide +kernel
theorem d_MO_areRecipesRight_82 : decode b_MO_areRecipesRight 82 = .ok (.iinc 3 1, 3) := by decide +kernel
theorem d_MO_areRecipesRight_85 : decode b_MO_areRecipesRight 85 = .ok (.goto (-44), 3) := by decide +kernel
theorem d_MO_areRecipesRight_88 : decode b_MO_areRecipesRight 88 = .ok (.iinc 2 1, 3) := by decide +kernel
theorem d_MO_areRecipesRight_91 : decode b_MO_areRecipesRight 91 = .ok (.goto (-87), 3) := by decide +kernel
theorem d_MO_areRecipesRight_94 : decode b_MO_areRecipesRight 94 = .ok (.iload_n 1, 1) := by decide +kernel
theorem d_MO_areRecipesRight_95 : decode b_MO_areRecipesRight 95 = .ok (.ireturn, 1) := by decide +kernel
set_option maxHeartbeats 4000000 in
set_option maxRecDepth 100000 in
theorem c_MO_areRecipesRight (l : Launch) (dC : Nat → ClassId) (dI : Nat → Nat → Nat) (fa : Nat) (cB : ClassId) (f : Nat → Int32) (hL : fm_Len (fm_RB f)) : fm_M l (dC, dI) y_MO_areRecipesRight w_MO_areRecipesRight ({ frames := 5, cells := 0, slots := 0, locals := 109 }) [.ref fa] [(fa, .inl (cB, 8192, .inl (f)))] [(cB, .byte)] ((fm_bI (fm_all (fm_WD (fm_RB f) 8) (fm_recipe1 (fm_RB f))))) := by
  refine Met.ofW (cc := b_MO_areRecipesRight) (maxL := 4) (ret := (some .boolean)) (by decide) rfl ?_
  intro pg ev s m args below meth cd s₁ BD hml hv
  obtain ⟨rfl, hP, hK⟩ := hv
  have hx := BD.exec
  have hb := BD.bytes
  have hr := BD.returns
  have hts := atoms_spec (ws := w_MO_areRecipesRight) BD.pre
  have ht : ∀ w ∈ fm_T, w.before _ s = true := fun w h => hts w (List.mem_cons_of_mem _ h)
  have hown : s.vm.findClass R_MO = some m.cls := findClass_of_methodNamed BD.named
  have hlocks := BD.notSynchronized
  have S : CallFix pg m cd b_MO_areRecipesRight 4 s _ w_MO_areRecipesRight R_MO := ⟨hx, hb, hml, hown, hts⟩
  have hl := lv_entry ([.ref fa]) (n := 4) (Nat.le_of_ble_eq_true rfl)
  rw [lg_entry_eq]
  generalize (lg_sl ([.ref fa]) ++ List.replicate (4 - (lg_sl ([.ref fa])).length) Slot.unset).toArray = ls at hl ⊢
  have hl : lv_has ls 4 [(0, .ref fa)] := hl
  obtain ⟨-, hq, h3, h10⟩ := id hL
  refine lv_iconst (v := nI (1)) hx hb d_MO_areRecipesRight_0 (by decide) ?_
  refine lv_istore_n (lv' := [(1, .int (nI (1))), (0, .ref fa)]) hx hb d_MO_areRecipesRight_1 rfl hl (by decide) rfl (fun ls hl => ?_)
  refine lv_iconst (v := nI (0)) hx hb d_MO_areRecipesRight_2 (by decide) ?_
  refine lv_istore_n (lv' := [(2, .int (nI (0))), (1, .int (nI (1))), (0, .ref fa)]) hx hb d_MO_areRecipesRight_3 rfl hl (by decide) rfl (fun ls hl => ?_)
  refine fm_loop1 (LV := fun (i : Nat) => [(0, .ref fa), (1, .int (fm_bI (fm_all (i) (fm_recipe1 (fm_RB f))))), (2, .int (nI (i)))]) (I := fun (i : Nat) => i ≤ fm_WD (fm_RB f) 8) (μ := fun (i : Nat) => fm_WD (fm_RB f) 8 - i) ?_ 0 (Nat.zero_le _) ls (lv_sub hl [2, 1, 0] rfl)
  intro i hI_4 ih_4 ls hl
  have hl : lv_has ls 4 [(0, .ref fa), (1, .int (fm_bI (fm_all (i) (fm_recipe1 (fm_RB f))))), (2, .int (nI (i)))] := hl
  refine lv_iload_n hx hb d_MO_areRecipesRight_4 rfl (lv_at hl 2 rfl) ?_
  refine lv_aload_n hx hb d_MO_areRecipesRight_5 rfl (lv_at hl 0 rfl) ?_
  refine lv_bipush (v := nI (8)) hx hb d_MO_areRecipesRight_6 (by decide) ?_
  refine fm_cs S (c_MO_words l dC dI fa cB f 8 (by omega) (fun _ => hq)) rfl rfl k_MO_words q_3_175 ⟨Nat.le_of_ble_eq_true rfl, Nat.le_of_ble_eq_true rfl⟩ (hP.sub [0] rfl) (hK.sub [0] rfl) rfl hl.1 rfl (Nat.le_of_ble_eq_true rfl) ⟨Nat.zero_le _, Nat.zero_le _⟩ d_MO_areRecipesRight_8 ?_
  have f0_8 := fm_WD_le (fm_RB_lt f) 8
  refine lv_icmp_ge (tgt := 94) hx hb d_MO_areRecipesRight_11 (by decide) (fun c0 => ?_) (fun c0 => ?_)
  · have c_11 : fm_WD (fm_RB f) 8 ≤ i := (nI_leI (a := fm_WD (fm_RB f) 8) (b := i) (by omega) (by omega)).mp c0
    refine lv_iload_n hx hb d_MO_areRecipesRight_94 rfl (lv_at hl 1 rfl) ?_
    exact W.zret (ty := .boolean) hx hb hr (fm_bI_z _) (fun t ht hW => ⟨_, rfl, by rw [show fm_WD (fm_RB f) 8 = i by omega], ht⟩) (fun q hq => by cases hq) d_MO_areRecipesRight_95
  · have c_11 : ¬ (fm_WD (fm_RB f) 8 ≤ i) := fun z => c0 ((nI_leI (a := fm_WD (fm_RB f) 8) (b := i) (by omega) (by omega)).mpr z)
    have hin := fm_pin hL (by decide : 8 < 10) (Nat.lt_of_not_le c_11)
    refine lv_iload_n hx hb d_MO_areRecipesRight_14 rfl (lv_at hl 1 rfl) ?_
    refine lv_if_eq (tgt := 37) hx hb d_MO_areRecipesRight_15 (by decide) (fun c0 => ?_) (fun c0 => ?_)
    · have c_15 : (fm_all (i) (fm_recipe1 (fm_RB f))) = false := fm_bI_f c0
      refine lv_iconst (v := nI (0)) hx hb d_MO_areRecipesRight_37 (by decide) ?_
      refine fm_tw (z := (fm_bI (fm_all i (fm_recipe1 (fm_RB f)) && (fm_th (fm_RB f) (fm_AT (fm_RB f) 8 i 3) && fm_all 0 (fm_rec (fm_RB f) i))))) (by first | exact fm_cF1 c_15 | exact fm_cT c_15 (by rw [c_30]; rfl) | exact fm_cF2 (by rw [c_30]; rfl)) ?_
      refine lv_istore_n (lv' := [(1, .int (fm_bI (fm_all i (fm_recipe1 (fm_RB f)) && (fm_th (fm_RB f) (fm_AT (fm_RB f) 8 i 3) && fm_all 0 (fm_rec (fm_RB f) i))))), (0, .ref fa), (2, .int (nI (i)))]) hx hb d_MO_areRecipesRight_38 rfl hl (by decide) rfl (fun ls hl => ?_)
      refine lv_iconst (v := nI (0)) hx hb d_MO_areRecipesRight_39 (by decide) ?_
      refine lv_istore_n (lv' := [(3, .int (nI (0))), (1, .int (fm_bI (fm_all i (fm_recipe1 (fm_RB f)) && (fm_th (fm_RB f) (fm_AT (fm_RB f) 8 i 3) && fm_all 0 (fm_rec (fm_RB f) i))))), (0, .ref fa), (2, .int (nI (i)))]) hx hb d_MO_areRecipesRight_40 rfl hl (by decide) rfl (fun ls hl => ?_)
      refine fm_loop1 (LV := fun (b : Nat) => [(0, .ref fa), (1, .int (fm_bI (fm_all i (fm_recipe1 (fm_RB f)) && (fm_th (fm_RB f) (fm_AT (fm_RB f) 8 i 3) && fm_all b (fm_rec (fm_RB f) i))))), (2, .int (nI (i))), (3, .int (nI (b)))]) (I := fun (b : Nat) => b ≤ 3) (μ := fun (b : Nat) => 3 - b) ?_ 0 (by decide) ls (lv_sub hl [2, 1, 3, 0] rfl)
      intro b hI_41 ih_41 ls hl
      have hl : lv_has ls 4 [(0, .ref fa), (1, .int (fm_bI (fm_all i (fm_recipe1 (fm_RB f)) && (fm_th (fm_RB f) (fm_AT (fm_RB f) 8 i 3) && fm_all b (fm_rec (fm_RB f) i))))), (2, .int (nI (i))), (3, .int (nI (b)))] := hl
      refine lv_iload_n hx hb d_MO_areRecipesRight_41 rfl (lv_at hl 3 rfl) ?_
      refine lv_iconst (v := nI (3)) hx hb d_MO_areRecipesRight_42 (by decide) ?_
      refine lv_icmp_ge (tgt := 88) hx hb d_MO_areRecipesRight_43 (by decide) (fun c0 => ?_) (fun c0 => ?_)
      · have c_43 : 3 ≤ b := (nI_leI (a := 3) (b := b) (by omega) (by omega)).mp c0
        obtain rfl : b = 3 := by omega
        have hl : lv_has ls 4 [(0, .ref fa), (1, .int (fm_bI (fm_all i (fm_recipe1 (fm_RB f)) && (fm_th (fm_RB f) (fm_AT (fm_RB f) 8 i 3) && fm_all 3 (fm_rec (fm_RB f) i))))), (2, .int (nI (i)))] := lv_sub hl [0, 1, 2] rfl
        rw [show ((fm_bI (fm_all i (fm_recipe1 (fm_RB f)) && (fm_th (fm_RB f) (fm_AT (fm_RB f) 8 i 3) && fm_all 3 (fm_rec (fm_RB f) i)))) : Int32) = (fm_bI (fm_all (i + 1) (fm_recipe1 (fm_RB f)))) from rfl] at hl
        refine lv_iinc (v := nI (i + 1)) (lv' := [(2, .int (nI (i + 1))), (0, .ref fa), (1, .int (fm_bI (fm_all (i + 1) (fm_recipe1 (fm_RB f)))))]) hx hb d_MO_areRecipesRight_88 hl (k := 2) rfl (nI_1 _) (by decide) rfl (fun ls hl => ?_)
        refine lv_goto (tgt := 4) hx hb d_MO_areRecipesRight_91 (by decide) ?_
        exact ih_4 (i + 1) ls (by omega) (by omega) (lv_sub hl [1, 2, 0] rfl)
      · have c_43 : ¬ (3 ≤ b) := fun z => c0 ((nI_leI (a := 3) (b := b) (by omega) (by omega)).mpr z)
        refine lv_iload_n hx hb d_MO_areRecipesRight_46 rfl (lv_at hl 1 rfl) ?_
        refine lv_if_eq (tgt := 80) hx hb d_MO_areRecipesRight_47 (by decide) (fun c0 => ?_) (fun c0 => ?_)
        · have c_47 : (fm_all i (fm_recipe1 (fm_RB f)) && (fm_th (fm_RB f) (fm_AT (fm_RB f) 8 i 3) && fm_all b (fm_rec (fm_RB f) i))) = false := fm_bI_f c0
          refine lv_iconst (v := nI (0)) hx hb d_MO_areRecipesRight_80 (by decide) ?_
          refine fm_tw (z := (fm_bI (fm_all i (fm_recipe1 (fm_RB f)) && (fm_th (fm_RB f) (fm_AT (fm_RB f) 8 i 3) && fm_all (b + 1) (fm_rec (fm_RB f) i))))) (by first | exact fm_iF1 c_47 | exact fm_iT c_47 (by rw [fm_rec, decide_eq_true c_58]; rfl) | exact fm_iT c_47 (by rw [fm_rec, c_73, Bool.or_true]) | exact fm_iF2 (by rw [fm_rec, decide_eq_false c_58, c_73]; rfl)) ?_
          refine lv_istore_n (lv' := [(1, .int (fm_bI (fm_all i (fm_recipe1 (fm_RB f)) && (fm_th (fm_RB f) (fm_AT (fm_RB f) 8 i 3) && fm_all (b + 1) (fm_rec (fm_RB f) i))))), (0, .ref fa), (2, .int (nI (i))), (3, .int (nI (b)))]) hx hb d_MO_areRecipesRight_81 rfl hl (by decide) rfl (fun ls hl => ?_)
          refine lv_iinc (v := nI (b + 1)) (lv' := [(3, .int (nI (b + 1))), (1, .int (fm_bI (fm_all i (fm_recipe1 (fm_RB f)) && (fm_th (fm_RB f) (fm_AT (fm_RB f) 8 i 3) && fm_all (b + 1) (fm_rec (fm_RB f) i))))), (0, .ref fa), (2, .int (nI (i)))]) hx hb d_MO_areRecipesRight_82 hl (k := 3) rfl (nI_1 _) (by decide) rfl (fun ls hl => ?_)
          refine lv_goto (tgt := 41) hx hb d_MO_areRecipesRight_85 (by decide) ?_
          exact ih_41 (b + 1) ls (by omega) (by omega) (lv_sub hl [2, 1, 3, 0] rfl)
        · have c_47 : (fm_all i (fm_recipe1 (fm_RB f)) && (fm_th (fm_RB f) (fm_AT (fm_RB f) 8 i 3) && fm_all b (fm_rec (fm_RB f) i))) = true := fm_bI_t c0
          refine lv_aload_n hx hb d_MO_areRecipesRight_50 rfl (lv_at hl 0 rfl) ?_
          refine lv_bipush (v := nI (8)) hx hb d_MO_areRecipesRight_51 (by decide) ?_
          refine lv_iload_n hx hb d_MO_areRecipesRight_53 rfl (lv_at hl 2 rfl) ?_
          refine lv_iload_n hx hb d_MO_areRecipesRight_54 rfl (lv_at hl 3 rfl) ?_
          refine fm_cs S (c_MO_at l dC dI fa cB f 8 i b (by omega) (hq) (by omega) (by omega)) rfl rfl k_MO_at q_3_184 ⟨Nat.le_of_ble_eq_true rfl, Nat.le_of_ble_eq_true rfl⟩ (hP.sub [0] rfl) (hK.sub [0] rfl) rfl hl.1 rfl (Nat.le_of_ble_eq_true rfl) ⟨Nat.zero_le _, Nat.zero_le _⟩ d_MO_areRecipesRight_55 ?_
          have f0_55 := fm_AT_lt (fm_RB_lt f) 8 i b
          refine lv_if_eq (tgt := 76) hx hb d_MO_areRecipesRight_58 (by decide) (fun c0 => ?_) (fun c0 => ?_)
          · have c_58 : fm_AT (fm_RB f) 8 i b = 0 := (nI_eq (a := fm_AT (fm_RB f) 8 i b) (b := 0) (by omega) (by omega)).mp c0
            refine lv_iconst (v := nI (1)) hx hb d_MO_areRecipesRight_76 (by decide) ?_
            refine lv_goto (tgt := 81) hx hb d_MO_areRecipesRight_77 (by decide) ?_
            refine fm_tw (z := (fm_bI (fm_all i (fm_recipe1 (fm_RB f)) && (fm_th (fm_RB f) (fm_AT (fm_RB f) 8 i 3) && fm_all (b + 1) (fm_rec (fm_RB f) i))))) (by first | exact fm_iF1 c_47 | exact fm_iT c_47 (by rw [fm_rec, decide_eq_true c_58]; rfl) | exact fm_iT c_47 (by rw [fm_rec, c_73, Bool.or_true]) | exact fm_iF2 (by rw [fm_rec, decide_eq_false c_58, c_73]; rfl)) ?_
            refine lv_istore_n (lv' := [(1, .int (fm_bI (fm_all i (fm_recipe1 (fm_RB f)) && (fm_th (fm_RB f) (fm_AT (fm_RB f) 8 i 3) && fm_all (b + 1) (fm_rec (fm_RB f) i))))), (0, .ref fa), (2, .int (nI (i))), (3, .int (nI (b)))]) hx hb d_MO_areRecipesRight_81 rfl hl (by decide) rfl (fun ls hl => ?_)
            refine lv_iinc (v := nI (b + 1)) (lv' := [(3, .int (nI (b + 1))), (1, .int (fm_bI (fm_all i (fm_recipe1 (fm_RB f)) && (fm_th (fm_RB f) (fm_AT (fm_RB f) 8 i 3) && fm_all (b + 1) (fm_rec (fm_RB f) i))))), (0, .ref fa), (2, .int (nI (i)))]) hx hb d_MO_areRecipesRight_82 hl (k := 3) rfl (nI_1 _) (by decide) rfl (fun ls hl => ?_)
            refine lv_goto (tgt := 41) hx hb d_MO_areRecipesRight_85 (by decide) ?_
            exact ih_41 (b + 1) ls (by omega) (by omega) (lv_sub hl [2, 1, 3, 0] rfl)
          · have c_58 : ¬ (fm_AT (fm_RB f) 8 i b = 0) := fun z => c0 ((nI_eq (a := fm_AT (fm_RB f) 8 i b) (b := 0) (by omega) (by omega)).mpr z)
            refine lv_aload_n hx hb d_MO_areRecipesRight_61 rfl (lv_at hl 0 rfl) ?_
            refine lv_aload_n hx hb d_MO_areRecipesRight_62 rfl (lv_at hl 0 rfl) ?_
            refine lv_bipush (v := nI (8)) hx hb d_MO_areRecipesRight_63 (by decide) ?_
            refine lv_iload_n hx hb d_MO_areRecipesRight_65 rfl (lv_at hl 2 rfl) ?_
            refine lv_iload_n hx hb d_MO_areRecipesRight_66 rfl (lv_at hl 3 rfl) ?_
            refine fm_cs S (c_MO_at l dC dI fa cB f 8 i b (by omega) (hq) (by omega) (by omega)) rfl rfl k_MO_at q_3_184 ⟨Nat.le_of_ble_eq_true rfl, Nat.le_of_ble_eq_true rfl⟩ (hP.sub [0] rfl) (hK.sub [0] rfl) rfl hl.1 rfl (Nat.le_of_ble_eq_true rfl) ⟨Nat.zero_le _, Nat.zero_le _⟩ d_MO_areRecipesRight_67 ?_
            have f0_67 := fm_AT_lt (fm_RB_lt f) 8 i b
            refine fm_cs S (c_MO_isThereN l dC dI fa cB f (fm_AT (fm_RB f) 8 i b) (by omega) (hL)) rfl rfl k_MO_isThere q_3_194 ⟨Nat.le_of_ble_eq_true rfl, Nat.le_of_ble_eq_true rfl⟩ (hP.sub [0] rfl) (hK.sub [0] rfl) rfl hl.1 rfl (Nat.le_of_ble_eq_true rfl) ⟨Nat.zero_le _, Nat.zero_le _⟩ d_MO_areRecipesRight_70 ?_
            refine lv_if_eq (tgt := 80) hx hb d_MO_areRecipesRight_73 (by decide) (fun c0 => ?_) (fun c0 => ?_)
            · have c_73 : (fm_th (fm_RB f) (fm_AT (fm_RB f) 8 i b)) = false := fm_bI_f c0
              refine lv_iconst (v := nI (0)) hx hb d_MO_areRecipesRight_80 (by decide) ?_
              refine fm_tw (z := (fm_bI (fm_all i (fm_recipe1 (fm_RB f)) && (fm_th (fm_RB f) (fm_AT (fm_RB f) 8 i 3) && fm_all (b + 1) (fm_rec (fm_RB f) i))))) (by first | exact fm_iF1 c_47 | exact fm_iT c_47 (by rw [fm_rec, decide_eq_true c_58]; rfl) | exact fm_iT c_47 (by rw [fm_rec, c_73, Bool.or_true]) | exact fm_iF2 (by rw [fm_rec, decide_eq_false c_58, c_73]; rfl)) ?_
              refine lv_istore_n (lv' := [(1, .int (fm_bI (fm_all i (fm_recipe1 (fm_RB f)) && (fm_th (fm_RB f) (fm_AT (fm_RB f) 8 i 3) && fm_all (b + 1) (fm_rec (fm_RB f) i))))), (0, .ref fa), (2, .int (nI (i))), (3, .int (nI (b)))]) hx hb d_MO_areRecipesRight_81 rfl hl (by decide) rfl (fun ls hl => ?_)
              refine lv_iinc (v := nI (b + 1)) (lv' := [(3, .int (nI (b + 1))), (1, .int (fm_bI (fm_all i (fm_recipe1 (fm_RB f)) && (fm_th (fm_RB f) (fm_AT (fm_RB f) 8 i 3) && fm_all (b + 1) (fm_rec (fm_RB f) i))))), (0, .ref fa), (2, .int (nI (i)))]) hx hb d_MO_areRecipesRight_82 hl (k := 3) rfl (nI_1 _) (by decide) rfl (fun ls hl => ?_)
              refine lv_goto (tgt := 41) hx hb d_MO_areRecipesRight_85 (by decide) ?_
              exact ih_41 (b + 1) ls (by omega) (by omega) (lv_sub hl [2, 1, 3, 0] rfl)
            · have c_73 : (fm_th (fm_RB f) (fm_AT (fm_RB f) 8 i b)) = true := fm_bI_t c0
              refine lv_iconst (v := nI (1)) hx hb d_MO_areRecipesRight_76 (by decide) ?_
              refine lv_goto (tgt := 81) hx hb d_MO_areRecipesRight_77 (by decide) ?_
              refine fm_tw (z := (fm_bI (fm_all i (fm_recipe1 (fm_RB f)) && (fm_th (fm_RB f) (fm_AT (fm_RB f) 8 i 3) && fm_all (b + 1) (fm_rec (fm_RB f) i))))) (by first | exact fm_iF1 c_47 | exact fm_iT c_47 (by rw [fm_rec, decide_eq_true c_58]; rfl) | exact fm_iT c_47 (by rw [fm_rec, c_73, Bool.or_true]) | exact fm_iF2 (by rw [fm_rec, decide_eq_false c_58, c_73]; rfl)) ?_
              refine lv_istore_n (lv' := [(1, .int (fm_bI (fm_all i (fm_recipe1 (fm_RB f)) && (fm_th (fm_RB f) (fm_AT (fm_RB f) 8 i 3) && fm_all (b + 1) (fm_rec (fm_RB f) i))))), (0, .ref fa), (2, .int (nI (i))), (3, .int (nI (b)))]) hx hb d_MO_areRecipesRight_81 rfl hl (by decide) rfl (fun ls hl => ?_)
              refine lv_iinc (v := nI (b + 1)) (lv' := [(3, .int (nI (b + 1))), (1, .int (fm_bI (fm_all i (fm_recipe1 (fm_RB f)) && (fm_th (fm_RB f) (fm_AT (fm_RB f) 8 i 3) && fm_all (b + 1) (fm_rec (fm_RB f) i))))), (0, .ref fa), (2, .int (nI (i)))]) hx hb d_MO_areRecipesRight_82 hl (k := 3) rfl (nI_1 _) (by decide) rfl (fun ls hl => ?_)
              refine lv_goto (tgt := 41) hx hb d_MO_areRecipesRight_85 (by decide) ?_
              exact ih_41 (b + 1) ls (by omega) (by omega) (lv_sub hl [2, 1, 3, 0] rfl)
    · have c_15 : (fm_all (i) (fm_recipe1 (fm_RB f))) = true := fm_bI_t c0
      refine lv_aload_n hx hb d_MO_areRecipesRight_18 rfl (lv_at hl 0 rfl) ?_
      refine lv_aload_n hx hb d_MO_areRecipesRight_19 rfl (lv_at hl 0 rfl) ?_
      refine lv_bipush (v := nI (8)) hx hb d_MO_areRecipesRight_20 (by decide) ?_
      refine lv_iload_n hx hb d_MO_areRecipesRight_22 rfl (lv_at hl 2 rfl) ?_
      refine lv_iconst (v := nI (3)) hx hb d_MO_areRecipesRight_23 (by decide) ?_
      refine fm_cs S (c_MO_at l dC dI fa cB f 8 i 3 (by omega) (hq) (by omega) (by omega)) rfl rfl k_MO_at q_3_184 ⟨Nat.le_of_ble_eq_true rfl, Nat.le_of_ble_eq_true rfl⟩ (hP.sub [0] rfl) (hK.sub [0] rfl) rfl hl.1 rfl (Nat.le_of_ble_eq_true rfl) ⟨Nat.zero_le _, Nat.zero_le _⟩ d_MO_areRecipesRight_24 ?_
      have f0_24 := fm_AT_lt (fm_RB_lt f) 8 i 3
      refine fm_cs S (c_MO_isThereN l dC dI fa cB f (fm_AT (fm_RB f) 8 i 3) (by omega) (hL)) rfl rfl k_MO_isThere q_3_194 ⟨Nat.le_of_ble_eq_true rfl, Nat.le_of_ble_eq_true rfl⟩ (hP.sub [0] rfl) (hK.sub [0] rfl) rfl hl.1 rfl (Nat.le_of_ble_eq_true rfl) ⟨Nat.zero_le _, Nat.zero_le _⟩ d_MO_areRecipesRight_27 ?_
      refine lv_if_eq (tgt := 37) hx hb d_MO_areRecipesRight_30 (by decide) (fun c0 => ?_) (fun c0 => ?_)
      · have c_30 : (fm_th (fm_RB f) (fm_AT (fm_RB f) 8 i 3)) = false := fm_bI_f c0
        refine lv_iconst (v := nI (0)) hx hb d_MO_areRecipesRight_37 (by decide) ?_
        refine fm_tw (z := (fm_bI (fm_all i (fm_recipe1 (fm_RB f)) && (fm_th (fm_RB f) (fm_AT (fm_RB f) 8 i 3) && fm_all 0 (fm_rec (fm_RB f) i))))) (by first | exact fm_cF1 c_15 | exact fm_cT c_15 (by rw [c_30]; rfl) | exact fm_cF2 (by rw [c_30]; rfl)) ?_
        refine lv_istore_n (lv' := [(1, .int (fm_bI (fm_all i (fm_recipe1 (fm_RB f)) && (fm_th (fm_RB f) (fm_AT (fm_RB f) 8 i 3) && fm_all 0 (fm_rec (fm_RB f) i))))), (0, .ref fa), (2, .int (nI (i)))]) hx hb d_MO_areRecipesRight_38 rfl hl (by decide) rfl (fun ls hl => ?_)
        refine lv_iconst (v := nI (0)) hx hb d_MO_areRecipesRight_39 (by decide) ?_
        refine lv_istore_n (lv' := [(3, .int (nI (0))), (1, .int (fm_bI (fm_all i (fm_recipe1 (fm_RB f)) && (fm_th (fm_RB f) (fm_AT (fm_RB f) 8 i 3) && fm_all 0 (fm_rec (fm_RB f) i))))), (0, .ref fa), (2, .int (nI (i)))]) hx hb d_MO_areRecipesRight_40 rfl hl (by decide) rfl (fun ls hl => ?_)
        refine fm_loop1 (LV := fun (b : Nat) => [(0, .ref fa), (1, .int (fm_bI (fm_all i (fm_recipe1 (fm_RB f)) && (fm_th (fm_RB f) (fm_AT (fm_RB f) 8 i 3) && fm_all b (fm_rec (fm_RB f) i))))), (2, .int (nI (i))), (3, .int (nI (b)))]) (I := fun (b : Nat) => b ≤ 3) (μ := fun (b : Nat) => 3 - b) ?_ 0 (by decide) ls (lv_sub hl [2, 1, 3, 0] rfl)
        intro b hI_41 ih_41 ls hl
        have hl : lv_has ls 4 [(0, .ref fa), (1, .int (fm_bI (fm_all i (fm_recipe1 (fm_RB f)) && (fm_th (fm_RB f) (fm_AT (fm_RB f) 8 i 3) && fm_all b (fm_rec (fm_RB f) i))))), (2, .int (nI (i))), (3, .int (nI (b)))] := hl
        refine lv_iload_n hx hb d_MO_areRecipesRight_41 rfl (lv_at hl 3 rfl) ?_
        refine lv_iconst (v := nI (3)) hx hb d_MO_areRecipesRight_42 (by decide) ?_
        refine lv_icmp_ge (tgt := 88) hx hb d_MO_areRecipesRight_43 (by decide) (fun c0 => ?_) (fun c0 => ?_)
        · have c_43 : 3 ≤ b := (nI_leI (a := 3) (b := b) (by omega) (by omega)).mp c0
          obtain rfl : b = 3 := by omega
          have hl : lv_has ls 4 [(0, .ref fa), (1, .int (fm_bI (fm_all i (fm_recipe1 (fm_RB f)) && (fm_th (fm_RB f) (fm_AT (fm_RB f) 8 i 3) && fm_all 3 (fm_rec (fm_RB f) i))))), (2, .int (nI (i)))] := lv_sub hl [0, 1, 2] rfl
          rw [show ((fm_bI (fm_all i (fm_recipe1 (fm_RB f)) && (fm_th (fm_RB f) (fm_AT (fm_RB f) 8 i 3) && fm_all 3 (fm_rec (fm_RB f) i)))) : Int32) = (fm_bI (fm_all (i + 1) (fm_recipe1 (fm_RB f)))) from rfl] at hl
          refine lv_iinc (v := nI (i + 1)) (lv' := [(2, .int (nI (i + 1))), (0, .ref fa), (1, .int (fm_bI (fm_all (i + 1) (fm_recipe1 (fm_RB f)))))]) hx hb d_MO_areRecipesRight_88 hl (k := 2) rfl (nI_1 _) (by decide) rfl (fun ls hl => ?_)
          refine lv_goto (tgt := 4) hx hb d_MO_areRecipesRight_91 (by decide) ?_
          exact ih_4 (i + 1) ls (by omega) (by omega) (lv_sub hl [1, 2, 0] rfl)
        · have c_43 : ¬ (3 ≤ b) := fun z => c0 ((nI_leI (a := 3) (b := b) (by omega) (by omega)).mpr z)
          refine lv_iload_n hx hb d_MO_areRecipesRight_46 rfl (lv_at hl 1 rfl) ?_
          refine lv_if_eq (tgt := 80) hx hb d_MO_areRecipesRight_47 (by decide) (fun c0 => ?_) (fun c0 => ?_)
          · have c_47 : (fm_all i (fm_recipe1 (fm_RB f)) && (fm_th (fm_RB f) (fm_AT (fm_RB f) 8 i 3) && fm_all b (fm_rec (fm_RB f) i))) = false := fm_bI_f c0
            refine lv_iconst (v := nI (0)) hx hb d_MO_areRecipesRight_80 (by decide) ?_
            refine fm_tw (z := (fm_bI (fm_all i (fm_recipe1 (fm_RB f)) && (fm_th (fm_RB f) (fm_AT (fm_RB f) 8 i 3) && fm_all (b + 1) (fm_rec (fm_RB f) i))))) (by first | exact fm_iF1 c_47 | exact fm_iT c_47 (by rw [fm_rec, decide_eq_true c_58]; rfl) | exact fm_iT c_47 (by rw [fm_rec, c_73, Bool.or_true]) | exact fm_iF2 (by rw [fm_rec, decide_eq_false c_58, c_73]; rfl)) ?_
            refine lv_istore_n (lv' := [(1, .int (fm_bI (fm_all i (fm_recipe1 (fm_RB f)) && (fm_th (fm_RB f) (fm_AT (fm_RB f) 8 i 3) && fm_all (b + 1) (fm_rec (fm_RB f) i))))), (0, .ref fa), (2, .int (nI (i))), (3, .int (nI (b)))]) hx hb d_MO_areRecipesRight_81 rfl hl (by decide) rfl (fun ls hl => ?_)
            refine lv_iinc (v := nI (b + 1)) (lv' := [(3, .int (nI (b + 1))), (1, .int (fm_bI (fm_all i (fm_recipe1 (fm_RB f)) && (fm_th (fm_RB f) (fm_AT (fm_RB f) 8 i 3) && fm_all (b + 1) (fm_rec (fm_RB f) i))))), (0, .ref fa), (2, .int (nI (i)))]) hx hb d_MO_areRecipesRight_82 hl (k := 3) rfl (nI_1 _) (by decide) rfl (fun ls hl => ?_)
            refine lv_goto (tgt := 41) hx hb d_MO_areRecipesRight_85 (by decide) ?_
            exact ih_41 (b + 1) ls (by omega) (by omega) (lv_sub hl [2, 1, 3, 0] rfl)
          · have c_47 : (fm_all i (fm_recipe1 (fm_RB f)) && (fm_th (fm_RB f) (fm_AT (fm_RB f) 8 i 3) && fm_all b (fm_rec (fm_RB f) i))) = true := fm_bI_t c0
            refine lv_aload_n hx hb d_MO_areRecipesRight_50 rfl (lv_at hl 0 rfl) ?_
            refine lv_bipush (v := nI (8)) hx hb d_MO_areRecipesRight_51 (by decide) ?_
            refine lv_iload_n hx hb d_MO_areRecipesRight_53 rfl (lv_at hl 2 rfl) ?_
            refine lv_iload_n hx hb d_MO_areRecipesRight_54 rfl (lv_at hl 3 rfl) ?_
            refine fm_cs S (c_MO_at l dC dI fa cB f 8 i b (by omega) (hq) (by omega) (by omega)) rfl rfl k_MO_at q_3_184 ⟨Nat.le_of_ble_eq_true rfl, Nat.le_of_ble_eq_true rfl⟩ (hP.sub [0] rfl) (hK.sub [0] rfl) rfl hl.1 rfl (Nat.le_of_ble_eq_true rfl) ⟨Nat.zero_le _, Nat.zero_le _⟩ d_MO_areRecipesRight_55 ?_
            have f0_55 := fm_AT_lt (fm_RB_lt f) 8 i b
            refine lv_if_eq (tgt := 76) hx hb d_MO_areRecipesRight_58 (by decide) (fun c0 => ?_) (fun c0 => ?_)
            · have c_58 : fm_AT (fm_RB f) 8 i b = 0 := (nI_eq (a := fm_AT (fm_RB f) 8 i b) (b := 0) (by omega) (by omega)).mp c0
              refine lv_iconst (v := nI (1)) hx hb d_MO_areRecipesRight_76 (by decide) ?_
              refine lv_goto (tgt := 81) hx hb d_MO_areRecipesRight_77 (by decide) ?_
              refine fm_tw (z := (fm_bI (fm_all i (fm_recipe1 (fm_RB f)) && (fm_th (fm_RB f) (fm_AT (fm_RB f) 8 i 3) && fm_all (b + 1) (fm_rec (fm_RB f) i))))) (by first | exact fm_iF1 c_47 | exact fm_iT c_47 (by rw [fm_rec, decide_eq_true c_58]; rfl) | exact fm_iT c_47 (by rw [fm_rec, c_73, Bool.or_true]) | exact fm_iF2 (by rw [fm_rec, decide_eq_false c_58, c_73]; rfl)) ?_
              refine lv_istore_n (lv' := [(1, .int (fm_bI (fm_all i (fm_recipe1 (fm_RB f)) && (fm_th (fm_RB f) (fm_AT (fm_RB f) 8 i 3) && fm_all (b + 1) (fm_rec (fm_RB f) i))))), (0, .ref fa), (2, .int (nI (i))), (3, .int (nI (b)))]) hx hb d_MO_areRecipesRight_81 rfl hl (by decide) rfl (fun ls hl => ?_)
              refine lv_iinc (v := nI (b + 1)) (lv' := [(3, .int (nI (b + 1))), (1, .int (fm_bI (fm_all i (fm_recipe1 (fm_RB f)) && (fm_th (fm_RB f) (fm_AT (fm_RB f) 8 i 3) && fm_all (b + 1) (fm_rec (fm_RB f) i))))), (0, .ref fa), (2, .int (nI (i)))]) hx hb d_MO_areRecipesRight_82 hl (k := 3) rfl (nI_1 _) (by decide) rfl (fun ls hl => ?_)
              refine lv_goto (tgt := 41) hx hb d_MO_areRecipesRight_85 (by decide) ?_
              exact ih_41 (b + 1) ls (by omega) (by omega) (lv_sub hl [2, 1, 3, 0] rfl)
            · have c_58 : ¬ (fm_AT (fm_RB f) 8 i b = 0) := fun z => c0 ((nI_eq (a := fm_AT (fm_RB f) 8 i b) (b := 0) (by omega) (by omega)).mpr z)
              refine lv_aload_n hx hb d_MO_areRecipesRight_61 rfl (lv_at hl 0 rfl) ?_
              refine lv_aload_n hx hb d_MO_areRecipesRight_62 rfl (lv_at hl 0 rfl) ?_
              refine lv_bipush (v := nI (8)) hx hb d_MO_areRecipesRight_63 (by decide) ?_
              refine lv_iload_n hx hb d_MO_areRecipesRight_65 rfl (lv_at hl 2 rfl) ?_
              refine lv_iload_n hx hb d_MO_areRecipesRight_66 rfl (lv_at hl 3 rfl) ?_
              refine fm_cs S (c_MO_at l dC dI fa cB f 8 i b (by omega) (hq) (by omega) (by omega)) rfl rfl k_MO_at q_3_184 ⟨Nat.le_of_ble_eq_true rfl, Nat.le_of_ble_eq_true rfl⟩ (hP.sub [0] rfl) (hK.sub [0] rfl) rfl hl.1 rfl (Nat.le_of_ble_eq_true rfl) ⟨Nat.zero_le _, Nat.zero_le _⟩ d_MO_areRecipesRight_67 ?_
              have f0_67 := fm_AT_lt (fm_RB_lt f) 8 i b
              refine fm_cs S (c_MO_isThereN l dC dI fa cB f (fm_AT (fm_RB f) 8 i b) (by omega) (hL)) rfl rfl k_MO_isThere q_3_194 ⟨Nat.le_of_ble_eq_true rfl, Nat.le_of_ble_eq_true rfl⟩ (hP.sub [0] rfl) (hK.sub [0] rfl) rfl hl.1 rfl (Nat.le_of_ble_eq_true rfl) ⟨Nat.zero_le _, Nat.zero_le _⟩ d_MO_areRecipesRight_70 ?_
              refine lv_if_eq (tgt := 80) hx hb d_MO_areRecipesRight_73 (by decide) (fun c0 => ?_) (fun c0 => ?_)
              · have c_73 : (fm_th (fm_RB f) (fm_AT (fm_RB f) 8 i b)) = false := fm_bI_f c0
                refine lv_iconst (v := nI (0)) hx hb d_MO_areRecipesRight_80 (by decide) ?_
                refine fm_tw (z := (fm_bI (fm_all i (fm_recipe1 (fm_RB f)) && (fm_th (fm_RB f) (fm_AT (fm_RB f) 8 i 3) && fm_all (b + 1) (fm_rec (fm_RB f) i))))) (by first | exact fm_iF1 c_47 | exact fm_iT c_47 (by rw [fm_rec, decide_eq_true c_58]; rfl) | exact fm_iT c_47 (by rw [fm_rec, c_73, Bool.or_true]) | exact fm_iF2 (by rw [fm_rec, decide_eq_false c_58, c_73]; rfl)) ?_
                refine lv_istore_n (lv' := [(1, .int (fm_bI (fm_all i (fm_recipe1 (fm_RB f)) && (fm_th (fm_RB f) (fm_AT (fm_RB f) 8 i 3) && fm_all (b + 1) (fm_rec (fm_RB f) i))))), (0, .ref fa), (2, .int (nI (i))), (3, .int (nI (b)))]) hx hb d_MO_areRecipesRight_81 rfl hl (by decide) rfl (fun ls hl => ?_)
                refine lv_iinc (v := nI (b + 1)) (lv' := [(3, .int (nI (b + 1))), (1, .int (fm_bI (fm_all i (fm_recipe1 (fm_RB f)) && (fm_th (fm_RB f) (fm_AT (fm_RB f) 8 i 3) && fm_all (b + 1) (fm_rec (fm_RB f) i))))), (0, .ref fa), (2, .int (nI (i)))]) hx hb d_MO_areRecipesRight_82 hl (k := 3) rfl (nI_1 _) (by decide) rfl (fun ls hl => ?_)
                refine lv_goto (tgt := 41) hx hb d_MO_areRecipesRight_85 (by decide) ?_
                exact ih_41 (b + 1) ls (by omega) (by omega) (lv_sub hl [2, 1, 3, 0] rfl)
              · have c_73 : (fm_th (fm_RB f) (fm_AT (fm_RB f) 8 i b)) = true := fm_bI_t c0
                refine lv_iconst (v := nI (1)) hx hb d_MO_areRecipesRight_76 (by decide) ?_
                refine lv_goto (tgt := 81) hx hb d_MO_areRecipesRight_77 (by decide) ?_
                refine fm_tw (z := (fm_bI (fm_all i (fm_recipe1 (fm_RB f)) && (fm_th (fm_RB f) (fm_AT (fm_RB f) 8 i 3) && fm_all (b + 1) (fm_rec (fm_RB f) i))))) (by first | exact fm_iF1 c_47 | exact fm_iT c_47 (by rw [fm_rec, decide_eq_true c_58]; rfl) | exact fm_iT c_47 (by rw [fm_rec, c_73, Bool.or_true]) | exact fm_iF2 (by rw [fm_rec, decide_eq_false c_58, c_73]; rfl)) ?_
                refine lv_istore_n (lv' := [(1, .int (fm_bI (fm_all i (fm_recipe1 (fm_RB f)) && (fm_th (fm_RB f) (fm_AT (fm_RB f) 8 i 3) && fm_all (b + 1) (fm_rec (fm_RB f) i))))), (0, .ref fa), (2, .int (nI (i))), (3, .int (nI (b)))]) hx hb d_MO_areRecipesRight_81 rfl hl (by decide) rfl (fun ls hl => ?_)
                refine lv_iinc (v := nI (b + 1)) (lv' := [(3, .int (nI (b + 1))), (1, .int (fm_bI (fm_all i (fm_recipe1 (fm_RB f)) && (fm_th (fm_RB f) (fm_AT (fm_RB f) 8 i 3) && fm_all (b + 1) (fm_rec (fm_RB f) i))))), (0, .ref fa), (2, .int (nI (i)))]) hx hb d_MO_areRecipesRight_82 hl (k := 3) rfl (nI_1 _) (by decide) rfl (fun ls hl => ?_)
                refine lv_goto (tgt := 41) hx hb d_MO_areRecipesRight_85 (by decide) ?_
                exact ih_41 (b + 1) ls (by omega) (by omega) (lv_sub hl [2, 1, 3, 0] rfl)
      · have c_30 : (fm_th (fm_RB f) (fm_AT (fm_RB f) 8 i 3)) = true := fm_bI_t c0
        refine lv_iconst (v := nI (1)) hx hb d_MO_areRecipesRight_33 (by decide) ?_
        refine lv_goto (tgt := 38) hx hb d_MO_areRecipesRight_34 (by decide) ?_
        refine fm_tw (z := (fm_bI (fm_all i (fm_recipe1 (fm_RB f)) && (fm_th (fm_RB f) (fm_AT (fm_RB f) 8 i 3) && fm_all 0 (fm_rec (fm_RB f) i))))) (by first | exact fm_cF1 c_15 | exact fm_cT c_15 (by rw [c_30]; rfl) | exact fm_cF2 (by rw [c_30]; rfl)) ?_
        refine lv_istore_n (lv' := [(1, .int (fm_bI (fm_all i (fm_recipe1 (fm_RB f)) && (fm_th (fm_RB f) (fm_AT (fm_RB f) 8 i 3) && fm_all 0 (fm_rec (fm_RB f) i))))), (0, .ref fa), (2, .int (nI (i)))]) hx hb d_MO_areRecipesRight_38 rfl hl (by decide) rfl (fun ls hl => ?_)
        refine lv_iconst (v := nI (0)) hx hb d_MO_areRecipesRight_39 (by decide) ?_
        refine lv_istore_n (lv' := [(3, .int (nI (0))), (1, .int (fm_bI (fm_all i (fm_recipe1 (fm_RB f)) && (fm_th (fm_RB f) (fm_AT (fm_RB f) 8 i 3) && fm_all 0 (fm_rec (fm_RB f) i))))), (0, .ref fa), (2, .int (nI (i)))]) hx hb d_MO_areRecipesRight_40 rfl hl (by decide) rfl (fun ls hl => ?_)
        refine fm_loop1 (LV := fun (b : Nat) => [(0, .ref fa), (1, .int (fm_bI (fm_all i (fm_recipe1 (fm_RB f)) && (fm_th (fm_RB f) (fm_AT (fm_RB f) 8 i 3) && fm_all b (fm_rec (fm_RB f) i))))), (2, .int (nI (i))), (3, .int (nI (b)))]) (I := fun (b : Nat) => b ≤ 3) (μ := fun (b : Nat) => 3 - b) ?_ 0 (by decide) ls (lv_sub hl [2, 1, 3, 0] rfl)
        intro b hI_41 ih_41 ls hl
        have hl : lv_has ls 4 [(0, .ref fa), (1, .int (fm_bI (fm_all i (fm_recipe1 (fm_RB f)) && (fm_th (fm_RB f) (fm_AT (fm_RB f) 8 i 3) && fm_all b (fm_rec (fm_RB f) i))))), (2, .int (nI (i))), (3, .int (nI (b)))] := hl
        refine lv_iload_n hx hb d_MO_areRecipesRight_41 rfl (lv_at hl 3 rfl) ?_
        refine lv_iconst (v := nI (3)) hx hb d_MO_areRecipesRight_42 (by decide) ?_
        refine lv_icmp_ge (tgt := 88) hx hb d_MO_areRecipesRight_43 (by decide) (fun c0 => ?_) (fun c0 => ?_)
        · have c_43 : 3 ≤ b := (nI_leI (a := 3) (b := b) (by omega) (by omega)).mp c0
          obtain rfl : b = 3 := by omega
          have hl : lv_has ls 4 [(0, .ref fa), (1, .int (fm_bI (fm_all i (fm_recipe1 (fm_RB f)) && (fm_th (fm_RB f) (fm_AT (fm_RB f) 8 i 3) && fm_all 3 (fm_rec (fm_RB f) i))))), (2, .int (nI (i)))] := lv_sub hl [0, 1, 2] rfl
          rw [show ((fm_bI (fm_all i (fm_recipe1 (fm_RB f)) && (fm_th (fm_RB f) (fm_AT (fm_RB f) 8 i 3) && fm_all 3 (fm_rec (fm_RB f) i)))) : Int32) = (fm_bI (fm_all (i + 1) (fm_recipe1 (fm_RB f)))) from rfl] at hl
          refine lv_iinc (v := nI (i + 1)) (lv' := [(2, .int (nI (i + 1))), (0, .ref fa), (1, .int (fm_bI (fm_all (i + 1) (fm_recipe1 (fm_RB f)))))]) hx hb d_MO_areRecipesRight_88 hl (k := 2) rfl (nI_1 _) (by decide) rfl (fun ls hl => ?_)
          refine lv_goto (tgt := 4) hx hb d_MO_areRecipesRight_91 (by decide) ?_
          exact ih_4 (i + 1) ls (by omega) (by omega) (lv_sub hl [1, 2, 0] rfl)
        · have c_43 : ¬ (3 ≤ b) := fun z => c0 ((nI_leI (a := 3) (b := b) (by omega) (by omega)).mpr z)
          refine lv_iload_n hx hb d_MO_areRecipesRight_46 rfl (lv_at hl 1 rfl) ?_
          refine lv_if_eq (tgt := 80) hx hb d_MO_areRecipesRight_47 (by decide) (fun c0 => ?_) (fun c0 => ?_)
          · have c_47 : (fm_all i (fm_recipe1 (fm_RB f)) && (fm_th (fm_RB f) (fm_AT (fm_RB f) 8 i 3) && fm_all b (fm_rec (fm_RB f) i))) = false := fm_bI_f c0
            refine lv_iconst (v := nI (0)) hx hb d_MO_areRecipesRight_80 (by decide) ?_
            refine fm_tw (z := (fm_bI (fm_all i (fm_recipe1 (fm_RB f)) && (fm_th (fm_RB f) (fm_AT (fm_RB f) 8 i 3) && fm_all (b + 1) (fm_rec (fm_RB f) i))))) (by first | exact fm_iF1 c_47 | exact fm_iT c_47 (by rw [fm_rec, decide_eq_true c_58]; rfl) | exact fm_iT c_47 (by rw [fm_rec, c_73, Bool.or_true]) | exact fm_iF2 (by rw [fm_rec, decide_eq_false c_58, c_73]; rfl)) ?_
            refine lv_istore_n (lv' := [(1, .int (fm_bI (fm_all i (fm_recipe1 (fm_RB f)) && (fm_th (fm_RB f) (fm_AT (fm_RB f) 8 i 3) && fm_all (b + 1) (fm_rec (fm_RB f) i))))), (0, .ref fa), (2, .int (nI (i))), (3, .int (nI (b)))]) hx hb d_MO_areRecipesRight_81 rfl hl (by decide) rfl (fun ls hl => ?_)
            refine lv_iinc (v := nI (b + 1)) (lv' := [(3, .int (nI (b + 1))), (1, .int (fm_bI (fm_all i (fm_recipe1 (fm_RB f)) && (fm_th (fm_RB f) (fm_AT (fm_RB f) 8 i 3) && fm_all (b + 1) (fm_rec (fm_RB f) i))))), (0, .ref fa), (2, .int (nI (i)))]) hx hb d_MO_areRecipesRight_82 hl (k := 3) rfl (nI_1 _) (by decide) rfl (fun ls hl => ?_)
            refine lv_goto (tgt := 41) hx hb d_MO_areRecipesRight_85 (by decide) ?_
            exact ih_41 (b + 1) ls (by omega) (by omega) (lv_sub hl [2, 1, 3, 0] rfl)
          · have c_47 : (fm_all i (fm_recipe1 (fm_RB f)) && (fm_th (fm_RB f) (fm_AT (fm_RB f) 8 i 3) && fm_all b (fm_rec (fm_RB f) i))) = true := fm_bI_t c0
            refine lv_aload_n hx hb d_MO_areRecipesRight_50 rfl (lv_at hl 0 rfl) ?_
            refine lv_bipush (v := nI (8)) hx hb d_MO_areRecipesRight_51 (by decide) ?_
            refine lv_iload_n hx hb d_MO_areRecipesRight_53 rfl (lv_at hl 2 rfl) ?_
            refine lv_iload_n hx hb d_MO_areRecipesRight_54 rfl (lv_at hl 3 rfl) ?_
            refine fm_cs S (c_MO_at l dC dI fa cB f 8 i b (by omega) (hq) (by omega) (by omega)) rfl rfl k_MO_at q_3_184 ⟨Nat.le_of_ble_eq_true rfl, Nat.le_of_ble_eq_true rfl⟩ (hP.sub [0] rfl) (hK.sub [0] rfl) rfl hl.1 rfl (Nat.le_of_ble_eq_true rfl) ⟨Nat.zero_le _, Nat.zero_le _⟩ d_MO_areRecipesRight_55 ?_
            have f0_55 := fm_AT_lt (fm_RB_lt f) 8 i b
            refine lv_if_eq (tgt := 76) hx hb d_MO_areRecipesRight_58 (by decide) (fun c0 => ?_) (fun c0 => ?_)
            · have c_58 : fm_AT (fm_RB f) 8 i b = 0 := (nI_eq (a := fm_AT (fm_RB f) 8 i b) (b := 0) (by omega) (by omega)).mp c0
              refine lv_iconst (v := nI (1)) hx hb d_MO_areRecipesRight_76 (by decide) ?_
              refine lv_goto (tgt := 81) hx hb d_MO_areRecipesRight_77 (by decide) ?_
              refine fm_tw (z := (fm_bI (fm_all i (fm_recipe1 (fm_RB f)) && (fm_th (fm_RB f) (fm_AT (fm_RB f) 8 i 3) && fm_all (b + 1) (fm_rec (fm_RB f) i))))) (by first | exact fm_iF1 c_47 | exact fm_iT c_47 (by rw [fm_rec, decide_eq_true c_58]; rfl) | exact fm_iT c_47 (by rw [fm_rec, c_73, Bool.or_true]) | exact fm_iF2 (by rw [fm_rec, decide_eq_false c_58, c_73]; rfl)) ?_
              refine lv_istore_n (lv' := [(1, .int (fm_bI (fm_all i (fm_recipe1 (fm_RB f)) && (fm_th (fm_RB f) (fm_AT (fm_RB f) 8 i 3) && fm_all (b + 1) (fm_rec (fm_RB f) i))))), (0, .ref fa), (2, .int (nI (i))), (3, .int (nI (b)))]) hx hb d_MO_areRecipesRight_81 rfl hl (by decide) rfl (fun ls hl => ?_)
              refine lv_iinc (v := nI (b + 1)) (lv' := [(3, .int (nI (b + 1))), (1, .int (fm_bI (fm_all i (fm_recipe1 (fm_RB f)) && (fm_th (fm_RB f) (fm_AT (fm_RB f) 8 i 3) && fm_all (b + 1) (fm_rec (fm_RB f) i))))), (0, .ref fa), (2, .int (nI (i)))]) hx hb d_MO_areRecipesRight_82 hl (k := 3) rfl (nI_1 _) (by decide) rfl (fun ls hl => ?_)
              refine lv_goto (tgt := 41) hx hb d_MO_areRecipesRight_85 (by decide) ?_
              exact ih_41 (b + 1) ls (by omega) (by omega) (lv_sub hl [2, 1, 3, 0] rfl)
            · have c_58 : ¬ (fm_AT (fm_RB f) 8 i b = 0) := fun z => c0 ((nI_eq (a := fm_AT (fm_RB f) 8 i b) (b := 0) (by omega) (by omega)).mpr z)
              refine lv_aload_n hx hb d_MO_areRecipesRight_61 rfl (lv_at hl 0 rfl) ?_
              refine lv_aload_n hx hb d_MO_areRecipesRight_62 rfl (lv_at hl 0 rfl) ?_
              refine lv_bipush (v := nI (8)) hx hb d_MO_areRecipesRight_63 (by decide) ?_
              refine lv_iload_n hx hb d_MO_areRecipesRight_65 rfl (lv_at hl 2 rfl) ?_
              refine lv_iload_n hx hb d_MO_areRecipesRight_66 rfl (lv_at hl 3 rfl) ?_
              refine fm_cs S (c_MO_at l dC dI fa cB f 8 i b (by omega) (hq) (by omega) (by omega)) rfl rfl k_MO_at q_3_184 ⟨Nat.le_of_ble_eq_true rfl, Nat.le_of_ble_eq_true rfl⟩ (hP.sub [0] rfl) (hK.sub [0] rfl) rfl hl.1 rfl (Nat.le_of_ble_eq_true rfl) ⟨Nat.zero_le _, Nat.zero_le _⟩ d_MO_areRecipesRight_67 ?_
              have f0_67 := fm_AT_lt (fm_RB_lt f) 8 i b
              refine fm_cs S (c_MO_isThereN l dC dI fa cB f (fm_AT (fm_RB f) 8 i b) (by omega) (hL)) rfl rfl k_MO_isThere q_3_194 ⟨Nat.le_of_ble_eq_true rfl, Nat.le_of_ble_eq_true rfl⟩ (hP.sub [0] rfl) (hK.sub [0] rfl) rfl hl.1 rfl (Nat.le_of_ble_eq_true rfl) ⟨Nat.zero_le _, Nat.zero_le _⟩ d_MO_areRecipesRight_70 ?_
              refine lv_if_eq (tgt := 80) hx hb d_MO_areRecipesRight_73 (by decide) (fun c0 => ?_) (fun c0 => ?_)
              · have c_73 : (fm_th (fm_RB f) (fm_AT (fm_RB f) 8 i b)) = false := fm_bI_f c0
                refine lv_iconst (v := nI (0)) hx hb d_MO_areRecipesRight_80 (by decide) ?_
                refine fm_tw (z := (fm_bI (fm_all i (fm_recipe1 (fm_RB f)) && (fm_th (fm_RB f) (fm_AT (fm_RB f) 8 i 3) && fm_all (b + 1) (fm_rec (fm_RB f) i))))) (by first | exact fm_iF1 c_47 | exact fm_iT c_47 (by rw [fm_rec, decide_eq_true c_58]; rfl) | exact fm_iT c_47 (by rw [fm_rec, c_73, Bool.or_true]) | exact fm_iF2 (by rw [fm_rec, decide_eq_false c_58, c_73]; rfl)) ?_
                refine lv_istore_n (lv' := [(1, .int (fm_bI (fm_all i (fm_recipe1 (fm_RB f)) && (fm_th (fm_RB f) (fm_AT (fm_RB f) 8 i 3) && fm_all (b + 1) (fm_rec (fm_RB f) i))))), (0, .ref fa), (2, .int (nI (i))), (3, .int (nI (b)))]) hx hb d_MO_areRecipesRight_81 rfl hl (by decide) rfl (fun ls hl => ?_)
                refine lv_iinc (v := nI (b + 1)) (lv' := [(3, .int (nI (b + 1))), (1, .int (fm_bI (fm_all i (fm_recipe1 (fm_RB f)) && (fm_th (fm_RB f) (fm_AT (fm_RB f) 8 i 3) && fm_all (b + 1) (fm_rec (fm_RB f) i))))), (0, .ref fa), (2, .int (nI (i)))]) hx hb d_MO_areRecipesRight_82 hl (k := 3) rfl (nI_1 _) (by decide) rfl (fun ls hl => ?_)
                refine lv_goto (tgt := 41) hx hb d_MO_areRecipesRight_85 (by decide) ?_
                exact ih_41 (b + 1) ls (by omega) (by omega) (lv_sub hl [2, 1, 3, 0] rfl)
              · have c_73 : (fm_th (fm_RB f) (fm_AT (fm_RB f) 8 i b)) = true := fm_bI_t c0
                refine lv_iconst (v := nI (1)) hx hb d_MO_areRecipesRight_76 (by decide) ?_
                refine lv_goto (tgt := 81) hx hb d_MO_areRecipesRight_77 (by decide) ?_
                refine fm_tw (z := (fm_bI (fm_all i (fm_recipe1 (fm_RB f)) && (fm_th (fm_RB f) (fm_AT (fm_RB f) 8 i 3) && fm_all (b + 1) (fm_rec (fm_RB f) i))))) (by first | exact fm_iF1 c_47 | exact fm_iT c_47 (by rw [fm_rec, decide_eq_true c_58]; rfl) | exact fm_iT c_47 (by rw [fm_rec, c_73, Bool.or_true]) | exact fm_iF2 (by rw [fm_rec, decide_eq_false c_58, c_73]; rfl)) ?_
                refine lv_istore_n (lv' := [(1, .int (fm_bI (fm_all i (fm_recipe1 (fm_RB f)) && (fm_th (fm_RB f) (fm_AT (fm_RB f) 8 i 3) && fm_all (b + 1) (fm_rec (fm_RB f) i))))), (0, .ref fa), (2, .int (nI (i))), (3, .int (nI (b)))]) hx hb d_MO_areRecipesRight_81 rfl hl (by decide) rfl (fun ls hl => ?_)
                refine lv_iinc (v := nI (b + 1)) (lv' := [(3, .int (nI (b + 1))), (1, .int (fm_bI (fm_all i (fm_recipe1 (fm_RB f)) && (fm_th (fm_RB f) (fm_AT (fm_RB f) 8 i 3) && fm_all (b + 1) (fm_rec (fm_RB f) i))))), (0, .ref fa), (2, .int (nI (i)))]) hx hb d_MO_areRecipesRight_82 hl (k := 3) rfl (nI_1 _) (by decide) rfl (fun ls hl => ?_)
                refine lv_goto (tgt := 41) hx hb d_MO_areRecipesRight_85 (by decide) ?_
                exact ih_41 (b + 1) ls (by omega) (by omega) (lv_sub hl [2, 1, 3, 0] rfl)
theorem d_MO_designOf_0 : decode b_MO_designOf 0 = .ok (.iconst 0, 1) := by decide +kernel
theorem d_MO_designOf_1 : decode b_MO_designOf 1 = .ok (.istore_n 1, 1) := by decide +kernel
theorem d_MO_designOf_2 : decode b_MO_designOf 2 = .ok (.iconst 0, 1) := by decide +kernel
theorem d_MO_designOf_3 : decode b_MO_designOf 3 = .ok (.istore_n 2, 1) := by decide +kernel
theorem d_MO_designOf_4 : decode b_MO_designOf 4 = .ok (.iload_n 2, 1) := by decide +kernel
theorem d_MO_designOf_5 : decode b_MO_designOf 5 = .ok (.iconst 4, 1) := by decide +kernel
theorem d_MO_designOf_6 : decode b_MO_designOf 6 = .ok (.if_icmp .ge 22, 3) := by decide +kernel
theorem d_MO_designOf_9 : decode b_MO_designOf 9 = .ok (.iload_n 1, 1) := by decide +kernel
theorem d_MO_designOf_10 : decode b_MO_designOf 10 = .ok (.bipush 8, 2) := by decide +kernel
theorem d_MO_designOf_12 : decode b_MO_designOf 12 = .ok (.ishl, 1) := by decide +kernel
theorem d_MO_designOf_13 : decode b_MO_designOf 13 = .ok (.aload_n 0, 1) := by decide +kernel
theorem d_MO_designOf_14 : decode b_MO_designOf 14 = .ok (.iconst 0, 1) := by decide +kernel
theorem d_MO_designOf_15 : decode b_MO_designOf 15 = .ok (.iconst 1, 1) := by decide +kernel
theorem d_MO_designOf_16 : decode b_MO_designOf 16 = .ok (.iload_n 2, 1) := by decide +kernel
theorem d_MO_designOf_17 : decode b_MO_designOf 17 = .ok (.invokestatic 43, 3) := by decide +kernel
theorem d_MO_designOf_20 : decode b_MO_designOf 20 = .ok (.ior, 1) := by decide +kernel
theorem d_MO_designOf_21 : decode b_MO_designOf 21 = .ok (.istore_n 1, 1) := by decide +kernel
theorem d_MO_designOf_22 : decode b_MO_designOf 22 = .ok (.iinc 2 1, 3) := by decide +kernel
theorem d_MO_designOf_25 : decode b_MO_designOf 25 = .ok (.goto (-21), 3) := by decide +kernel
theorem d_MO_designOf_28 : decode b_MO_designOf 28 = .ok (.iload_n 1, 1) := by decide +kernel
theorem d_MO_designOf_29 : decode b_MO_designOf 29 = .ok (.ireturn, 1) := by decide +kernel
set_option maxHeartbeats 4000000 in
set_option maxRecDepth 100000 in
theorem c_MO_designOf (l : Launch) (dC : Nat → ClassId) (dI : Nat → Nat → Nat) (fa : Nat) (cB : ClassId) (f : Nat → Int32) (hL : fm_Len (fm_RB f)) : fm_M l (dC, dI) y_MO_designOf w_MO_designOf ({ frames := 4, cells := 0, slots := 0, locals := 88 }) [.ref fa] [(fa, .inl (cB, 8192, .inl (f)))] [(cB, .byte)] ((nI (fm_WO (fm_RB f) 7))) := by
  refine Met.ofW (cc := b_MO_designOf) (maxL := 3) (ret := (some .int)) (by decide) rfl ?_
  intro pg ev s m args below meth cd s₁ BD hml hv
  obtain ⟨rfl, hP, hK⟩ := hv
  have hx := BD.exec
  have hb := BD.bytes
  have hr := BD.returns
  have hts := atoms_spec (ws := w_MO_designOf) BD.pre
  have ht : ∀ w ∈ fm_T, w.before _ s = true := fun w h => hts w (List.mem_cons_of_mem _ h)
  have hown : s.vm.findClass R_MO = some m.cls := findClass_of_methodNamed BD.named
  have hlocks := BD.notSynchronized
  have S : CallFix pg m cd b_MO_designOf 3 s _ w_MO_designOf R_MO := ⟨hx, hb, hml, hown, hts⟩
  have hl := lv_entry ([.ref fa]) (n := 3) (Nat.le_of_ble_eq_true rfl)
  rw [lg_entry_eq]
  generalize (lg_sl ([.ref fa]) ++ List.replicate (3 - (lg_sl ([.ref fa])).length) Slot.unset).toArray = ls at hl ⊢
  have hl : lv_has ls 3 [(0, .ref fa)] := hl
  obtain ⟨-, hq, h3, h10⟩ := id hL
  have hin : fm_ST (fm_RB f) 0 + 1 < 2048 := by show 6 + 1 < 2048; decide
  refine lv_iconst (v := nI (0)) hx hb d_MO_designOf_0 (by decide) ?_
  refine lv_istore_n (lv' := [(1, .int (nI (0))), (0, .ref fa)]) hx hb d_MO_designOf_1 rfl hl (by decide) rfl (fun ls hl => ?_)
  refine lv_iconst (v := nI (0)) hx hb d_MO_designOf_2 (by decide) ?_
  refine lv_istore_n (lv' := [(2, .int (nI (0))), (1, .int (nI (0))), (0, .ref fa)]) hx hb d_MO_designOf_3 rfl hl (by decide) rfl (fun ls hl => ?_)
  refine lv_iload_n hx hb d_MO_designOf_4 rfl (lv_at hl 0 rfl) ?_
  refine lv_iconst (v := nI (4)) hx hb d_MO_designOf_5 (by decide) ?_
  refine lv_icmp_ge (tgt := 28) hx hb d_MO_designOf_6 (by decide) (fun c0 => ?_) (fun c0 => ?_)
  · have c_6 : 4 ≤ 0 := (nI_leI (a := 4) (b := 0) (by omega) (by omega)).mp c0
    exact absurd c_6 (by decide)
  · have c_6 : ¬ (4 ≤ 0) := fun z => c0 ((nI_leI (a := 4) (b := 0) (by omega) (by omega)).mpr z)
    refine lv_iload_n hx hb d_MO_designOf_9 rfl (lv_at hl 1 rfl) ?_
    refine lv_bipush (v := nI (8)) hx hb d_MO_designOf_10 (by decide) ?_
    refine lv_ishl hx hb d_MO_designOf_12 ?_
    refine lv_aload_n hx hb d_MO_designOf_13 rfl (lv_at hl 2 rfl) ?_
    refine lv_iconst (v := nI (0)) hx hb d_MO_designOf_14 (by decide) ?_
    refine lv_iconst (v := nI (1)) hx hb d_MO_designOf_15 (by decide) ?_
    refine lv_iload_n hx hb d_MO_designOf_16 rfl (lv_at hl 0 rfl) ?_
    refine fm_cs S (c_MO_at l dC dI fa cB f 0 1 0 (by omega) (hq) (by omega) (by omega)) rfl rfl k_MO_at q_3_184 ⟨Nat.le_of_ble_eq_true rfl, Nat.le_of_ble_eq_true rfl⟩ (hP.sub [0] rfl) (hK.sub [0] rfl) rfl hl.1 rfl (Nat.le_of_ble_eq_true rfl) ⟨Nat.zero_le _, Nat.zero_le _⟩ d_MO_designOf_17 ?_
    have f0_17 := fm_AT_lt (fm_RB_lt f) 0 1 0
    refine lv_ior hx hb d_MO_designOf_20 ?_
    refine lv_istore_n (lv' := [(1, .int ((nI (0) <<< (nI (8) &&& 31)) ||| nI (fm_AT (fm_RB f) 0 1 0))), (2, .int (nI (0))), (0, .ref fa)]) hx hb d_MO_designOf_21 rfl hl (by decide) rfl (fun ls hl => ?_)
    refine lv_iinc (v := nI (1)) (lv' := [(2, .int (nI (1))), (1, .int ((nI (0) <<< (nI (8) &&& 31)) ||| nI (fm_AT (fm_RB f) 0 1 0))), (0, .ref fa)]) hx hb d_MO_designOf_22 hl (k := 1) rfl (nI_1 0) (by decide) rfl (fun ls hl => ?_)
    refine lv_goto (tgt := 4) hx hb d_MO_designOf_25 (by decide) ?_
    refine lv_iload_n hx hb d_MO_designOf_4 rfl (lv_at hl 0 rfl) ?_
    refine lv_iconst (v := nI (4)) hx hb d_MO_designOf_5 (by decide) ?_
    refine lv_icmp_ge (tgt := 28) hx hb d_MO_designOf_6 (by decide) (fun c0 => ?_) (fun c0 => ?_)
    · have c_6 : 4 ≤ 1 := (nI_leI (a := 4) (b := 1) (by omega) (by omega)).mp c0
      exact absurd c_6 (by decide)
    · have c_6 : ¬ (4 ≤ 1) := fun z => c0 ((nI_leI (a := 4) (b := 1) (by omega) (by omega)).mpr z)
      refine lv_iload_n hx hb d_MO_designOf_9 rfl (lv_at hl 1 rfl) ?_
      refine lv_bipush (v := nI (8)) hx hb d_MO_designOf_10 (by decide) ?_
      refine lv_ishl hx hb d_MO_designOf_12 ?_
      refine lv_aload_n hx hb d_MO_designOf_13 rfl (lv_at hl 2 rfl) ?_
      refine lv_iconst (v := nI (0)) hx hb d_MO_designOf_14 (by decide) ?_
      refine lv_iconst (v := nI (1)) hx hb d_MO_designOf_15 (by decide) ?_
      refine lv_iload_n hx hb d_MO_designOf_16 rfl (lv_at hl 0 rfl) ?_
      refine fm_cs S (c_MO_at l dC dI fa cB f 0 1 1 (by omega) (hq) (by omega) (by omega)) rfl rfl k_MO_at q_3_184 ⟨Nat.le_of_ble_eq_true rfl, Nat.le_of_ble_eq_true rfl⟩ (hP.sub [0] rfl) (hK.sub [0] rfl) rfl hl.1 rfl (Nat.le_of_ble_eq_true rfl) ⟨Nat.zero_le _, Nat.zero_le _⟩ d_MO_designOf_17 ?_
      have f0_17 := fm_AT_lt (fm_RB_lt f) 0 1 1
      refine lv_ior hx hb d_MO_designOf_20 ?_
      refine lv_istore_n (lv' := [(1, .int ((((nI (0) <<< (nI (8) &&& 31)) ||| nI (fm_AT (fm_RB f) 0 1 0)) <<< (nI (8) &&& 31)) ||| nI (fm_AT (fm_RB f) 0 1 1))), (2, .int (nI (1))), (0, .ref fa)]) hx hb d_MO_designOf_21 rfl hl (by decide) rfl (fun ls hl => ?_)
      refine lv_iinc (v := nI (2)) (lv' := [(2, .int (nI (2))), (1, .int ((((nI (0) <<< (nI (8) &&& 31)) ||| nI (fm_AT (fm_RB f) 0 1 0)) <<< (nI (8) &&& 31)) ||| nI (fm_AT (fm_RB f) 0 1 1))), (0, .ref fa)]) hx hb d_MO_designOf_22 hl (k := 1) rfl (nI_1 1) (by decide) rfl (fun ls hl => ?_)
      refine lv_goto (tgt := 4) hx hb d_MO_designOf_25 (by decide) ?_
      refine lv_iload_n hx hb d_MO_designOf_4 rfl (lv_at hl 0 rfl) ?_
      refine lv_iconst (v := nI (4)) hx hb d_MO_designOf_5 (by decide) ?_
      refine lv_icmp_ge (tgt := 28) hx hb d_MO_designOf_6 (by decide) (fun c0 => ?_) (fun c0 => ?_)
      · have c_6 : 4 ≤ 2 := (nI_leI (a := 4) (b := 2) (by omega) (by omega)).mp c0
        exact absurd c_6 (by decide)
      · have c_6 : ¬ (4 ≤ 2) := fun z => c0 ((nI_leI (a := 4) (b := 2) (by omega) (by omega)).mpr z)
        refine lv_iload_n hx hb d_MO_designOf_9 rfl (lv_at hl 1 rfl) ?_
        refine lv_bipush (v := nI (8)) hx hb d_MO_designOf_10 (by decide) ?_
        refine lv_ishl hx hb d_MO_designOf_12 ?_
        refine lv_aload_n hx hb d_MO_designOf_13 rfl (lv_at hl 2 rfl) ?_
        refine lv_iconst (v := nI (0)) hx hb d_MO_designOf_14 (by decide) ?_
        refine lv_iconst (v := nI (1)) hx hb d_MO_designOf_15 (by decide) ?_
        refine lv_iload_n hx hb d_MO_designOf_16 rfl (lv_at hl 0 rfl) ?_
        refine fm_cs S (c_MO_at l dC dI fa cB f 0 1 2 (by omega) (hq) (by omega) (by omega)) rfl rfl k_MO_at q_3_184 ⟨Nat.le_of_ble_eq_true rfl, Nat.le_of_ble_eq_true rfl⟩ (hP.sub [0] rfl) (hK.sub [0] rfl) rfl hl.1 rfl (Nat.le_of_ble_eq_true rfl) ⟨Nat.zero_le _, Nat.zero_le _⟩ d_MO_designOf_17 ?_
        have f0_17 := fm_AT_lt (fm_RB_lt f) 0 1 2
        refine lv_ior hx hb d_MO_designOf_20 ?_
        refine lv_istore_n (lv' := [(1, .int ((((((nI (0) <<< (nI (8) &&& 31)) ||| nI (fm_AT (fm_RB f) 0 1 0)) <<< (nI (8) &&& 31)) ||| nI (fm_AT (fm_RB f) 0 1 1)) <<< (nI (8) &&& 31)) ||| nI (fm_AT (fm_RB f) 0 1 2))), (2, .int (nI (2))), (0, .ref fa)]) hx hb d_MO_designOf_21 rfl hl (by decide) rfl (fun ls hl => ?_)
        refine lv_iinc (v := nI (3)) (lv' := [(2, .int (nI (3))), (1, .int ((((((nI (0) <<< (nI (8) &&& 31)) ||| nI (fm_AT (fm_RB f) 0 1 0)) <<< (nI (8) &&& 31)) ||| nI (fm_AT (fm_RB f) 0 1 1)) <<< (nI (8) &&& 31)) ||| nI (fm_AT (fm_RB f) 0 1 2))), (0, .ref fa)]) hx hb d_MO_designOf_22 hl (k := 1) rfl (nI_1 2) (by decide) rfl (fun ls hl => ?_)
        refine lv_goto (tgt := 4) hx hb d_MO_designOf_25 (by decide) ?_
        refine lv_iload_n hx hb d_MO_designOf_4 rfl (lv_at hl 0 rfl) ?_
        refine lv_iconst (v := nI (4)) hx hb d_MO_designOf_5 (by decide) ?_
        refine lv_icmp_ge (tgt := 28) hx hb d_MO_designOf_6 (by decide) (fun c0 => ?_) (fun c0 => ?_)
        · have c_6 : 4 ≤ 3 := (nI_leI (a := 4) (b := 3) (by omega) (by omega)).mp c0
          exact absurd c_6 (by decide)
        · have c_6 : ¬ (4 ≤ 3) := fun z => c0 ((nI_leI (a := 4) (b := 3) (by omega) (by omega)).mpr z)
          refine lv_iload_n hx hb d_MO_designOf_9 rfl (lv_at hl 1 rfl) ?_
          refine lv_bipush (v := nI (8)) hx hb d_MO_designOf_10 (by decide) ?_
          refine lv_ishl hx hb d_MO_designOf_12 ?_
          refine lv_aload_n hx hb d_MO_designOf_13 rfl (lv_at hl 2 rfl) ?_
          refine lv_iconst (v := nI (0)) hx hb d_MO_designOf_14 (by decide) ?_
          refine lv_iconst (v := nI (1)) hx hb d_MO_designOf_15 (by decide) ?_
          refine lv_iload_n hx hb d_MO_designOf_16 rfl (lv_at hl 0 rfl) ?_
          refine fm_cs S (c_MO_at l dC dI fa cB f 0 1 3 (by omega) (hq) (by omega) (by omega)) rfl rfl k_MO_at q_3_184 ⟨Nat.le_of_ble_eq_true rfl, Nat.le_of_ble_eq_true rfl⟩ (hP.sub [0] rfl) (hK.sub [0] rfl) rfl hl.1 rfl (Nat.le_of_ble_eq_true rfl) ⟨Nat.zero_le _, Nat.zero_le _⟩ d_MO_designOf_17 ?_
          have f0_17 := fm_AT_lt (fm_RB_lt f) 0 1 3
          refine lv_ior hx hb d_MO_designOf_20 ?_
          refine lv_istore_n (lv' := [(1, .int ((((((((nI (0) <<< (nI (8) &&& 31)) ||| nI (fm_AT (fm_RB f) 0 1 0)) <<< (nI (8) &&& 31)) ||| nI (fm_AT (fm_RB f) 0 1 1)) <<< (nI (8) &&& 31)) ||| nI (fm_AT (fm_RB f) 0 1 2)) <<< (nI (8) &&& 31)) ||| nI (fm_AT (fm_RB f) 0 1 3))), (2, .int (nI (3))), (0, .ref fa)]) hx hb d_MO_designOf_21 rfl hl (by decide) rfl (fun ls hl => ?_)
          refine lv_iinc (v := nI (4)) (lv' := [(2, .int (nI (4))), (1, .int ((((((((nI (0) <<< (nI (8) &&& 31)) ||| nI (fm_AT (fm_RB f) 0 1 0)) <<< (nI (8) &&& 31)) ||| nI (fm_AT (fm_RB f) 0 1 1)) <<< (nI (8) &&& 31)) ||| nI (fm_AT (fm_RB f) 0 1 2)) <<< (nI (8) &&& 31)) ||| nI (fm_AT (fm_RB f) 0 1 3))), (0, .ref fa)]) hx hb d_MO_designOf_22 hl (k := 1) rfl (nI_1 3) (by decide) rfl (fun ls hl => ?_)
          refine lv_goto (tgt := 4) hx hb d_MO_designOf_25 (by decide) ?_
          refine lv_iload_n hx hb d_MO_designOf_4 rfl (lv_at hl 0 rfl) ?_
          refine lv_iconst (v := nI (4)) hx hb d_MO_designOf_5 (by decide) ?_
          refine lv_icmp_ge (tgt := 28) hx hb d_MO_designOf_6 (by decide) (fun c0 => ?_) (fun c0 => ?_)
          · have c_6 : 4 ≤ 4 := (nI_leI (a := 4) (b := 4) (by omega) (by omega)).mp c0
            refine lv_iload_n hx hb d_MO_designOf_28 rfl (lv_at hl 1 rfl) ?_
            exact W.iret hx hb hr (fun t ht hW => ⟨_, rfl, fm_four (fm_RB_lt f _) (fm_RB_lt f _) (fm_RB_lt f _) (fm_RB_lt f _), ht⟩) (fun q hq => by cases hq) d_MO_designOf_29
          · have c_6 : ¬ (4 ≤ 4) := fun z => c0 ((nI_leI (a := 4) (b := 4) (by omega) (by omega)).mpr z)
            exact absurd c_6 (by decide)
end
section
/-! THE MODEL, second part: scaling; programs -/
/-- how often a size is halved -/
def fm_h (s : Nat) : Nat := if s < 8388608 then 0 else if s < 16777216 then 1 else if s < 33554432 then 2 else if s < 67108864 then 3 else 4
def fm_z (s : Nat) : Nat := s / 2 ^ fm_h s
theorem fm_h_le (s : Nat) : fm_h s ≤ 4 := by
  unfold fm_h
  repeat' split
  all_goals omega
theorem fm_h_iff {s i : Nat} (hs : s < 134217728) (hi : i ≤ fm_h s) : s / 2 ^ i < 8388608 ↔ i = fm_h s := by
  have h4 := fm_h_le s
  unfold fm_h at *
  rcases (show i = 0 ∨ i = 1 ∨ i = 2 ∨ i = 3 ∨ i = 4 by omega) with rfl | rfl | rfl | rfl | rfl <;> simp only [Nat.reducePow] at * <;> (repeat' split at *) <;> omega
theorem fm_h_half (s i : Nat) : s / 2 ^ i / 2 = s / 2 ^ (i + 1) := by
  rw [Nat.div_div_eq_div_mul, Nat.pow_succ]
theorem fm_lcmp {x y : Int64} : lg_cmp x y < 0 ↔ x < y := by
  rw [← Int32.not_le, lg_cmp_ge, Int64.not_le]
def fm_num (B : Nat → Nat) (p k : Nat) : Nat := 65536 * fm_AT B p k 1 + 256 * fm_AT B p k 2 + fm_AT B p k 3
theorem fm_num_lt {B : Nat → Nat} (hB : ∀ i, B i < 256) (p k : Nat) : fm_num B p k < 16777216 := by
  have h1 := fm_AT_lt hB p k 1
  have h2 := fm_AT_lt hB p k 2
  have h3 := fm_AT_lt hB p k 3
  unfold fm_num
  omega
/-- a word scaled by the size s -/
def fm_sc (B : Nat → Nat) (s p k : Nat) : Int32 :=
  if fm_AT B p k 0 = 255 then (lN (fm_num B p k * fm_z s) >>> ((nI (20 - fm_h s)).toInt64 &&& 63) - (lN (fm_z s) <<< ((nI (4 + fm_h s)).toInt64 &&& 63))).toInt32
  else (lN (fm_num B p k * fm_z s) >>> ((nI (20 - fm_h s)).toInt64 &&& 63)).toInt32
def fm_oI (o : Option Nat) : Int32 := match o with
  | none => -1
  | some k => nI k
def fm_ego (B : Nat → Nat) : Option Nat := if 0 < fm_WD B 6 ∧ fm_AT B 6 0 0 = 255 then some (fm_AT B 6 0 1) else none
def fm_epo (B : Nat → Nat) : Option Nat := if 0 < fm_WD B 6 ∧ fm_AT B 6 (fm_WD B 6 - 1) 0 = 255 then some (fm_FAR B (fm_WD B 6 - 1)) else none
theorem fm_eg_o (B : Nat → Nat) : fm_eg B = fm_oI (fm_ego B) := by
  unfold fm_eg fm_ego
  split <;> rfl
theorem fm_ep_o (B : Nat → Nat) : fm_ep B = fm_oI (fm_epo B) := by
  unfold fm_ep fm_epo
  split <;> rfl
/-- where x's program begins, as its tag or the last word says -/
def fm_so (B : Nat → Nat) (x : Nat) : Option Nat := if x = 256 then fm_epo B else if fm_tag B x = 1 then some (fm_rest B x) else none
def fm_no (B : Nat → Nat) (r : Nat) : Option Nat := if r = 256 then fm_ego B else some r
def fm_seek (B : Nat → Nat) (nx : Nat) : Nat → Nat → Option Nat
  | 0, _ => none
  | n + 1, k => if 128 < fm_AT B 6 k 0 then none else if fm_AT B 6 k 1 = nx then some k else if fm_AT B 6 k 0 = 128 then none else fm_seek B nx n (k + fm_AT B 6 k 0 + 1)
/-- a program that begins elsewhere -/
def fm_at0 (B : Nat → Nat) (k : Nat) : Nat := if 128 < fm_AT B 6 k 0 then fm_FAR B k else k
/-- the word that x's program finds, asked for r -/
def fm_fd (B : Nat → Nat) (x r : Nat) : Option Nat := match fm_so B x, fm_no B r with
  | some k, some nx => fm_seek B nx (fm_WD B 6 - fm_at0 B k) (fm_at0 B k)
  | _, _ => none
/-- what it says -/
def fm_say (B : Nat → Nat) (x r : Nat) : Int32 := fm_oI ((fm_fd B x r).map (fm_FAR B))
/-- all tests passed -/
def fm_V (B : Nat → Nat) : Prop := fm_Len B ∧ fm_few B = false ∧ ¬ nI (fm_WO B 7) < nI 1048576 ∧ fm_all (fm_WD B 1) (fm_size1 B) = true ∧ fm_all (fm_WD B 1) (fun k => fm_tag1 B (fm_HF B 2 + k)) = true ∧ fm_tables B = true ∧ fm_all (fm_WD B 6) (fm_word1 B) = true ∧ fm_all (fm_WD B 8) (fm_recipe1 B) = true ∧ fm_fracs B 9 1 = true
theorem fm_V_tag {B : Nat → Nat} (h : fm_V B) {c : Nat} (hc : fm_th B c = true) : (fm_tag B c = 1 → fm_rest B c < fm_WD B 6) ∧ (fm_tag B c = 3 → fm_rest B c < fm_WD B 8) := by
  obtain ⟨hL, -, -, -, h5, -⟩ := h
  obtain ⟨h1, h2, -⟩ := fm_th_in hc
  have h6 := fm_all_iff.mp h5 (c - fm_HF B 2) (by rw [fm_WD1]; omega)
  have h6 : fm_tag1 B (fm_HF B 2 + (c - fm_HF B 2)) = true := h6
  rw [show fm_HF B 2 + (c - fm_HF B 2) = c by omega] at h6
  unfold fm_tag1 at h6
  rw [hc] at h6
  simp only [Bool.not_true, Bool.false_or, Bool.and_eq_true, Bool.or_eq_true, decide_eq_true_eq] at h6
  exact ⟨fun e => h6.1.1.resolve_left (fun z => z e), fun e => h6.1.2.resolve_left (fun z => z e)⟩
theorem fm_V_word {B : Nat → Nat} (h : fm_V B) {k : Nat} (hk : k < fm_WD B 6) : fm_word1 B k = true := fm_all_iff.mp h.2.2.2.2.2.2.1 k hk
theorem fm_V_far {B : Nat → Nat} (h : fm_V B) {k : Nat} (hk : k < fm_WD B 6) (h1 : 128 < fm_AT B 6 k 0) : fm_FAR B k < fm_WD B 6 := by
  have h2 := fm_V_word h hk
  rw [fm_word1, if_pos h1] at h2
  exact of_decide_eq_true h2
theorem fm_V_next {B : Nat → Nat} (h : fm_V B) {k : Nat} (hk : k < fm_WD B 6) (h1 : fm_AT B 6 k 0 < 128) : k + fm_AT B 6 k 0 + 1 < fm_WD B 6 := by
  have h2 := fm_V_word h hk
  rw [fm_word1, if_neg (by omega), Bool.and_eq_true] at h2
  have h3 := h2.2
  unfold fm_w3 at h3
  simp only [Bool.or_eq_true, decide_eq_true_eq] at h3
  omega
theorem fm_V_at0 {B : Nat → Nat} (h : fm_V B) {k : Nat} (hk : k < fm_WD B 6) : fm_at0 B k < fm_WD B 6 := by
  unfold fm_at0
  split
  · exact fm_V_far h hk (by assumption)
  · exact hk
theorem fm_V_so {B : Nat → Nat} (h : fm_V B) {x k : Nat} (hx : x = 256 ∨ fm_th B x = true) (hk : fm_so B x = some k) : k < fm_WD B 6 := by
  unfold fm_so at hk
  split at hk
  · unfold fm_epo at hk
    split at hk
    · rename_i h0
      cases hk
      exact fm_V_far h (by omega) (by omega)
    · cases hk
  · split at hk
    · cases hk
      exact (fm_V_tag h (hx.resolve_left (by assumption))).1 (by assumption)
    · cases hk
theorem fm_seek_fuel {B : Nat → Nat} (h : fm_V B) (nx : Nat) : ∀ (n m k : Nat), k < fm_WD B 6 → fm_WD B 6 - k ≤ n → fm_WD B 6 - k ≤ m → fm_seek B nx n k = fm_seek B nx m k := by
  intro n
  induction n with
  | zero => intro m k hk h1 _; omega
  | succ n ih =>
    intro m k hk h1 h2
    obtain ⟨m, rfl⟩ : ∃ q, m = q + 1 := ⟨m - 1, by omega⟩
    unfold fm_seek
    by_cases c1 : 128 < fm_AT B 6 k 0
    · rw [if_pos c1, if_pos c1]
    · rw [if_neg c1, if_neg c1]
      by_cases c2 : fm_AT B 6 k 1 = nx
      · rw [if_pos c2, if_pos c2]
      · rw [if_neg c2, if_neg c2]
        by_cases c3 : fm_AT B 6 k 0 = 128
        · rw [if_pos c3, if_pos c3]
        · rw [if_neg c3, if_neg c3]
          have h4 := fm_V_next h hk (by omega)
          exact ih m _ h4 (by omega) (by omega)
/-- a step of the search -/
theorem fm_seek_s {B : Nat → Nat} (h : fm_V B) {nx k : Nat} (hk : k < fm_WD B 6) : fm_seek B nx (fm_WD B 6 - k) k = if 128 < fm_AT B 6 k 0 then none else if fm_AT B 6 k 1 = nx then some k else if fm_AT B 6 k 0 = 128 then none else fm_seek B nx (fm_WD B 6 - (k + fm_AT B 6 k 0 + 1)) (k + fm_AT B 6 k 0 + 1) := by
  obtain ⟨n, hn⟩ : ∃ q, fm_WD B 6 - k = q + 1 := ⟨fm_WD B 6 - k - 1, by omega⟩
  rw [hn]
  show (if 128 < fm_AT B 6 k 0 then none else if fm_AT B 6 k 1 = nx then some k else if fm_AT B 6 k 0 = 128 then none else fm_seek B nx n (k + fm_AT B 6 k 0 + 1)) = _
  by_cases c1 : 128 < fm_AT B 6 k 0
  · rw [if_pos c1, if_pos c1]
  · rw [if_neg c1, if_neg c1]
    by_cases c2 : fm_AT B 6 k 1 = nx
    · rw [if_pos c2, if_pos c2]
    · rw [if_neg c2, if_neg c2]
      by_cases c3 : fm_AT B 6 k 0 = 128
      · rw [if_pos c3, if_pos c3]
      · rw [if_neg c3, if_neg c3]
        have h4 := fm_V_next h hk (by omega)
        exact fm_seek_fuel h nx _ _ _ h4 (by omega) (Nat.le_refl _)
theorem fm_smS {B : Nat → Nat} {n i : Nat} {v : Int32} (h : (decide (24 ≤ n) && fm_all i (fm_sm B)) = true) (h2 : (v = nI 1 ∧ fm_sm B i = true) ∨ (v = nI 0 ∧ fm_sm B i = false)) : v = fm_bI (decide (24 ≤ n) && fm_all (i + 1) (fm_sm B)) := by
  rw [fm_all, ← Bool.and_assoc, h, Bool.true_and]
  rcases h2 with ⟨e, h2⟩ | ⟨e, h2⟩ <;> rw [e, h2] <;> rfl
theorem fm_smX {B : Nat → Nat} {n i : Nat} (hi : i ≤ 12) (h : (decide (24 ≤ n) && fm_all i (fm_sm B)) = false) : (decide (24 ≤ n) && fm_all i (fm_sm B)) = fm_small B n := by
  rw [h, fm_small]
  rcases Bool.and_eq_false_iff.mp h with h1 | h1
  · rw [h1]; rfl
  · rw [fm_all_le hi h1, Bool.and_false]
/-- the place of a character's width, height, depth, italic -/
def fm_pl (B : Nat → Nat) (c : Nat) (w : Nat) : Nat := if w = 0 then fm_AT B 1 (c - fm_HF B 2) 0 else if w = 1 then fm_AT B 1 (c - fm_HF B 2) 1 / 16 else if w = 2 then fm_AT B 1 (c - fm_HF B 2) 1 % 16 else fm_AT B 1 (c - fm_HF B 2) 2 / 4
theorem fm_pl_lt {B : Nat → Nat} (hz : fm_all (fm_WD B 1) (fm_size1 B) = true) {c w : Nat} (h1 : fm_HF B 2 ≤ c) (h2 : c ≤ fm_HF B 3) (hw : w < 4) : fm_pl B c w < fm_WD B (2 + w) := by
  have h := fm_all_iff.mp hz (c - fm_HF B 2) (by rw [fm_WD1]; omega)
  unfold fm_size1 at h
  simp only [Bool.and_eq_true, decide_eq_true_eq] at h
  obtain ⟨⟨⟨a, b⟩, c3⟩, d⟩ := h
  rcases (show w = 0 ∨ w = 1 ∨ w = 2 ∨ w = 3 by omega) with rfl | rfl | rfl | rfl
  · exact a
  · exact b
  · exact c3
  · exact d
theorem fm_oI_ge {o : Option Nat} (h : ¬ fm_oI o < 0) : ∃ k, o = some k := by
  cases o with
  | none => exact absurd (by decide) h
  | some k => exact ⟨k, rfl⟩
theorem fm_oI_lt {o : Option Nat} {N : Nat} (hb : ∀ {k : Nat}, o = some k → k < N ∧ N ≤ 2 ^ 31) (h : fm_oI o < 0) : o = none := by
  cases o with
  | none => rfl
  | some k =>
    obtain ⟨h1, h2⟩ := hb rfl
    exact absurd h (nI_pos (by omega))
theorem fm_so_lt {B : Nat → Nat} (hB : ∀ i, B i < 256) {x : Nat} (_ : x ≤ 256) {k : Nat} (h : fm_so B x = some k) : k < 65536 ∧ 65536 ≤ 2 ^ 31 := by
  refine ⟨?_, by decide⟩
  unfold fm_so fm_epo at h
  split at h
  · split at h
    · cases h; exact fm_FAR_lt hB _
    · cases h
  · split at h
    · cases h
      have := fm_rest_lt hB x
      omega
    · cases h
theorem fm_no_lt {B : Nat → Nat} (hB : ∀ i, B i < 256) {r : Nat} (hr : r ≤ 256) {k : Nat} (h : fm_no B r = some k) : k < 257 ∧ 257 ≤ 2 ^ 31 := by
  refine ⟨?_, by decide⟩
  unfold fm_no fm_ego at h
  split at h
  · split at h
    · cases h
      have := fm_AT_lt hB 6 0 1
      omega
    · cases h
  · cases h
    omega
theorem fm_fwT {x : Bool} {j : Nat} {p : Nat → Bool} (h : (x || !(fm_all j p)) = true) : nI 1 = fm_bI (x || !(fm_all (j + 1) p)) := by
  have h2 : (x || !(fm_all (j + 1) p)) = true := by
    rw [fm_all]
    cases hx : x with
    | true => rfl
    | false =>
      rw [hx] at h
      cases hy : fm_all j p with
      | true => rw [hy] at h; cases h
      | false => rfl
  rw [h2]; rfl
theorem fm_fwS {x : Bool} {j : Nat} {p : Nat → Bool} {v : Int32} (h : (x || !(fm_all j p)) = false) (h2 : (v = nI 1 ∧ p j = false) ∨ (v = nI 0 ∧ p j = true)) : v = fm_bI (x || !(fm_all (j + 1) p)) := by
  obtain ⟨h3, h4⟩ := Bool.or_eq_false_iff.mp h
  have h5 : fm_all j p = true := by simpa using h4
  rw [fm_all, h3, h5]
  rcases h2 with ⟨e, h6⟩ | ⟨e, h6⟩ <;> rw [e, h6] <;> rfl
theorem fm_few_ne {B : Nat → Nat} (h : fm_few B = false) : ∀ p, 2 ≤ p → p < 6 → 0 < fm_WD B p := by
  intro p h1 h2
  unfold fm_few at h
  have h3 := (Bool.or_eq_false_iff.mp h).2
  have h4 : fm_all 4 (fm_nz B) = true := by simpa using h3
  have h5 := fm_all_iff.mp h4 (p - 2) (by omega)
  unfold fm_nz at h5
  rw [show p - 2 + 2 = p by omega] at h5
  have h6 := of_decide_eq_true h5
  omega
end
section
theorem d_MO_areNumbersSmall_0 : decode b_MO_areNumbersSmall 0 = .ok (.aload_n 0, 1) := by decide +kernel
theorem d_MO_areNumbersSmall_1 : decode b_MO_areNumbersSmall 1 = .ok (.getfield 30, 3) := by decide +kernel
theorem d_MO_areNumbersSmall_4 : decode b_MO_areNumbersSmall 4 = .ok (.bipush 24, 2) := by decide +kernel
theorem d_MO_areNumbersSmall_6 : decode b_MO_areNumbersSmall 6 = .ok (.if_icmp .lt 7, 3) := by decide +kernel
theorem d_MO_areNumbersSmall_9 : decode b_MO_areNumbersSmall 9 = .ok (.iconst 1, 1) := by decide +kernel
theorem d_MO_areNumbersSmall_10 : decode b_MO_areNumbersSmall 10 = .ok (.goto 4, 3) := by decide +kernel
theorem d_MO_areNumbersSmall_13 : decode b_MO_areNumbersSmall 13 = .ok (.iconst 0, 1) := by decide +kernel
theorem d_MO_areNumbersSmall_14 : decode b_MO_areNumbersSmall 14 = .ok (.istore_n 1, 1) := by decide +kernel
theorem d_MO_areNumbersSmall_15 : decode b_MO_areNumbersSmall 15 = .ok (.iconst 0, 1) := by decide +kernel
theorem d_MO_areNumbersSmall_16 : decode b_MO_areNumbersSmall 16 = .ok (.istore_n 2, 1) := by decide +kernel
theorem d_MO_areNumbersSmall_17 : decode b_MO_areNumbersSmall 17 = .ok (.iload_n 2, 1) := by decide +kernel
theorem d_MO_areNumbersSmall_18 : decode b_MO_areNumbersSmall 18 = .ok (.bipush 12, 2) := by decide +kernel
theorem d_MO_areNumbersSmall_20 : decode b_MO_areNumbersSmall 20 = .ok (.if_icmp .ge 33, 3) := by decide +kernel
theorem d_MO_areNumbersSmall_23 : decode b_MO_areNumbersSmall 23 = .ok (.iload_n 1, 1) := by decide +kernel
theorem d_MO_areNumbersSmall_24 : decode b_MO_areNumbersSmall 24 = .ok (.ifCond .eq 29, 3) := by decide +kernel
theorem d_MO_areNumbersSmall_27 : decode b_MO_areNumbersSmall 27 = .ok (.aload_n 0, 1) := by decide +kernel
theorem d_MO_areNumbersSmall_28 : decode b_MO_areNumbersSmall 28 = .ok (.getfield 7, 3) := by decide +kernel
theorem d_MO_areNumbersSmall_31 : decode b_MO_areNumbersSmall 31 = .ok (.iload_n 2, 1) := by decide +kernel
theorem d_MO_areNumbersSmall_32 : decode b_MO_areNumbersSmall 32 = .ok (.invokestatic 33, 3) := by decide +kernel
theorem d_MO_areNumbersSmall_35 : decode b_MO_areNumbersSmall 35 = .ok (.sipush 32767, 3) := by decide +kernel
theorem d_MO_areNumbersSmall_38 : decode b_MO_areNumbersSmall 38 = .ok (.if_icmp .gt 7, 3) := by decide +kernel
theorem d_MO_areNumbersSmall_41 : decode b_MO_areNumbersSmall 41 = .ok (.iconst 1, 1) := by decide +kernel
theorem d_MO_areNumbersSmall_42 : decode b_MO_areNumbersSmall 42 = .ok (.goto 4, 3) := by decide +kernel
theorem d_MO_areNumbersSmall_45 : decode b_MO_areNumbersSmall 45 = .ok (.iconst 0, 1) := by decide +kernel
theorem d_MO_areNumbersSmall_46 : decode b_MO_areNumbersSmall 46 = .ok (.istore_n 1, 1) := by decide +kernel
theorem d_MO_areNumbersSmall_47 : decode b_MO_areNumbersSmall 47 = .ok (.iinc 2 1, 3) := by decide +kernel
theorem d_MO_areNumbersSmall_50 : decode b_MO_areNumbersSmall 50 = .ok (.goto (-33), 3) := by decide +kernel
theorem d_MO_areNumbersSmall_53 : decode b_MO_areNumbersSmall 53 = .ok (.iload_n 1, 1) := by decide +kernel
theorem d_MO_areNumbersSmall_54 : decode b_MO_areNumbersSmall 54 = .ok (.ireturn, 1) := by decide +kernel
set_option maxHeartbeats 4000000 in
set_option maxRecDepth 100000 in
theorem c_MO_areNumbersSmall (l : Launch) (dC : Nat → ClassId) (dI : Nat → Nat → Nat) (h : Nat) (th : Int32) (fa : Nat) (n : Nat) (ga : Nat) (ld : Int32) (sz : Int32) (ra : Nat) (rz : Int32) (ka : Nat) (wa : Nat) (ct : Int32) (cB : ClassId) (f : Nat → Int32) (hn : n ≤ 8192) : fm_M l (dC, dI) y_MO_areNumbersSmall w_MO_areNumbersSmall ({ frames := 1, cells := 0, slots := 0, locals := 21 }) [.ref h] [(h, .inr (4, [.int (th), .ref fa, .int (nI (n)), .ref ga, .int (ld), .int (sz), .ref ra, .int (rz), .ref ka, .ref wa, .int (ct)])), (fa, .inl (cB, 8192, .inl (f)))] [(cB, .byte)] ((fm_bI (fm_small (fm_RB f) n))) := by
  refine Met.ofW (cc := b_MO_areNumbersSmall) (maxL := 3) (ret := (some .boolean)) (by decide) rfl ?_
  intro pg ev s m args below meth cd s₁ BD hml hv
  obtain ⟨rfl, hP, hK⟩ := hv
  have hx := BD.exec
  have hb := BD.bytes
  have hr := BD.returns
  have hts := atoms_spec (ws := w_MO_areNumbersSmall) BD.pre
  have ht : ∀ w ∈ fm_T, w.before _ s = true := fun w h => hts w (List.mem_cons_of_mem _ h)
  have hown : s.vm.findClass R_MO = some m.cls := findClass_of_methodNamed BD.named
  have hlocks := BD.notSynchronized
  have S : CallFix pg m cd b_MO_areNumbersSmall 3 s _ w_MO_areNumbersSmall R_MO := ⟨hx, hb, hml, hown, hts⟩
  have hl := lv_entry ([.ref h]) (n := 3) (Nat.le_of_ble_eq_true rfl)
  rw [lg_entry_eq]
  generalize (lg_sl ([.ref h]) ++ List.replicate (3 - (lg_sl ([.ref h])).length) Slot.unset).toArray = ls at hl ⊢
  have hl : lv_has ls 3 [(0, .ref h)] := hl
  refine lv_aload_n hx hb d_MO_areNumbersSmall_0 rfl (lv_at hl 0 rfl) ?_
  refine va_get (D := (dC, dI)) (ci := 4) (v := .int (nI (n))) (C := R_MO) (T := F_MO) (N := 11) hx hb ht i_MO hown hK hP 0 rfl rfl 2 (by decide) (ht _ q_3_115) (fun _ h9 => h9) rfl d_MO_areNumbersSmall_1 ?_
  refine lv_bipush (v := nI (24)) hx hb d_MO_areNumbersSmall_4 (by decide) ?_
  refine lv_icmp_lt (tgt := 13) hx hb d_MO_areNumbersSmall_6 (by decide) (fun c0 => ?_) (fun c0 => ?_)
  · have c_6 : n < 24 := (nI_ltI (a := n) (b := 24) (by omega) (by omega)).mp c0
    refine lv_iconst (v := nI (0)) hx hb d_MO_areNumbersSmall_13 (by decide) ?_
    refine fm_tw (z := (fm_bI (decide (24 ≤ n) && fm_all 0 (fm_sm (fm_RB f))))) (by first | exact fm_bI_0 (by rw [decide_eq_false (Nat.not_le.mpr c_6)]; rfl) | exact fm_bI_1 (by rw [decide_eq_true (Nat.le_of_not_lt c_6)]; rfl)) ?_
    refine lv_istore_n (lv' := [(1, .int (fm_bI (decide (24 ≤ n) && fm_all 0 (fm_sm (fm_RB f))))), (0, .ref h)]) hx hb d_MO_areNumbersSmall_14 rfl hl (by decide) rfl (fun ls hl => ?_)
    refine lv_iconst (v := nI (0)) hx hb d_MO_areNumbersSmall_15 (by decide) ?_
    refine lv_istore_n (lv' := [(2, .int (nI (0))), (1, .int (fm_bI (decide (24 ≤ n) && fm_all 0 (fm_sm (fm_RB f))))), (0, .ref h)]) hx hb d_MO_areNumbersSmall_16 rfl hl (by decide) rfl (fun ls hl => ?_)
    refine fm_loop1 (LV := fun (i : Nat) => [(0, .ref h), (1, .int (fm_bI (decide (24 ≤ n) && fm_all i (fm_sm (fm_RB f))))), (2, .int (nI (i)))]) (I := fun (i : Nat) => i ≤ 12) (μ := fun (i : Nat) => 12 - i) ?_ 0 (by decide) ls (lv_sub hl [2, 1, 0] rfl)
    intro i hI_17 ih_17 ls hl
    have hl : lv_has ls 3 [(0, .ref h), (1, .int (fm_bI (decide (24 ≤ n) && fm_all i (fm_sm (fm_RB f))))), (2, .int (nI (i)))] := hl
    refine lv_iload_n hx hb d_MO_areNumbersSmall_17 rfl (lv_at hl 2 rfl) ?_
    refine lv_bipush (v := nI (12)) hx hb d_MO_areNumbersSmall_18 (by decide) ?_
    refine lv_icmp_ge (tgt := 53) hx hb d_MO_areNumbersSmall_20 (by decide) (fun c0 => ?_) (fun c0 => ?_)
    · have c_20 : 12 ≤ i := (nI_leI (a := 12) (b := i) (by omega) (by omega)).mp c0
      refine lv_iload_n hx hb d_MO_areNumbersSmall_53 rfl (lv_at hl 1 rfl) ?_
      exact W.zret (ty := .boolean) hx hb hr (fm_bI_z _) (fun t ht hW => ⟨_, rfl, by first | exact fm_bb (by rw [fm_small, show i = 12 by omega]) | exact fm_bb (fm_smX (by omega) c_24), ht⟩) (fun q hq => by cases hq) d_MO_areNumbersSmall_54
    · have c_20 : ¬ (12 ≤ i) := fun z => c0 ((nI_leI (a := 12) (b := i) (by omega) (by omega)).mpr z)
      refine lv_iload_n hx hb d_MO_areNumbersSmall_23 rfl (lv_at hl 1 rfl) ?_
      refine lv_if_eq (tgt := 53) hx hb d_MO_areNumbersSmall_24 (by decide) (fun c0 => ?_) (fun c0 => ?_)
      · have c_24 : (decide (24 ≤ n) && fm_all i (fm_sm (fm_RB f))) = false := fm_bI_f c0
        refine lv_iload_n hx hb d_MO_areNumbersSmall_53 rfl (lv_at hl 1 rfl) ?_
        exact W.zret (ty := .boolean) hx hb hr (fm_bI_z _) (fun t ht hW => ⟨_, rfl, by first | exact fm_bb (by rw [fm_small, show i = 12 by omega]) | exact fm_bb (fm_smX (by omega) c_24), ht⟩) (fun q hq => by cases hq) d_MO_areNumbersSmall_54
      · have c_24 : (decide (24 ≤ n) && fm_all i (fm_sm (fm_RB f))) = true := fm_bI_t c0
        refine lv_aload_n hx hb d_MO_areNumbersSmall_27 rfl (lv_at hl 0 rfl) ?_
        refine va_get (D := (dC, dI)) (ci := 4) (v := .ref fa) (C := R_MO) (T := F_MO) (N := 11) hx hb ht i_MO hown hK hP 0 rfl rfl 1 (by decide) (ht _ q_3_114) (fun _ h9 => h9) rfl d_MO_areNumbersSmall_28 ?_
        refine lv_iload_n hx hb d_MO_areNumbersSmall_31 rfl (lv_at hl 2 rfl) ?_
        refine fm_cs S (c_MO_half l dC dI fa cB f i (by omega)) rfl rfl k_MO_half q_3_172 ⟨Nat.le_of_ble_eq_true rfl, Nat.le_of_ble_eq_true rfl⟩ (hP.sub [1] rfl) (hK.sub [0] rfl) rfl hl.1 rfl (Nat.le_of_ble_eq_true rfl) ⟨Nat.zero_le _, Nat.zero_le _⟩ d_MO_areNumbersSmall_32 ?_
        have f0_32 := fm_HF_lt (fm_RB_lt f) i
        refine lv_sipush (v := nI (32767)) hx hb d_MO_areNumbersSmall_35 (by decide) ?_
        refine lv_icmp_gt (tgt := 45) hx hb d_MO_areNumbersSmall_38 (by decide) (fun c0 => ?_) (fun c0 => ?_)
        · have c_38 : 32767 < fm_HF (fm_RB f) i := (nI_ltI (a := 32767) (b := fm_HF (fm_RB f) i) (by omega) (by omega)).mp c0
          refine lv_iconst (v := nI (0)) hx hb d_MO_areNumbersSmall_45 (by decide) ?_
          refine fm_tw (z := (fm_bI (decide (24 ≤ n) && fm_all (i + 1) (fm_sm (fm_RB f))))) (fm_smS c_24 (by first | exact Or.inl ⟨rfl, decide_eq_true (Nat.le_of_not_lt c_38)⟩ | exact Or.inr ⟨rfl, decide_eq_false (Nat.not_le.mpr c_38)⟩)) ?_
          refine lv_istore_n (lv' := [(1, .int (fm_bI (decide (24 ≤ n) && fm_all (i + 1) (fm_sm (fm_RB f))))), (0, .ref h), (2, .int (nI (i)))]) hx hb d_MO_areNumbersSmall_46 rfl hl (by decide) rfl (fun ls hl => ?_)
          refine lv_iinc (v := nI (i + 1)) (lv' := [(2, .int (nI (i + 1))), (1, .int (fm_bI (decide (24 ≤ n) && fm_all (i + 1) (fm_sm (fm_RB f))))), (0, .ref h)]) hx hb d_MO_areNumbersSmall_47 hl (k := 2) rfl (nI_1 _) (by decide) rfl (fun ls hl => ?_)
          refine lv_goto (tgt := 17) hx hb d_MO_areNumbersSmall_50 (by decide) ?_
          exact ih_17 (i + 1) ls (by omega) (by omega) (lv_sub hl [2, 1, 0] rfl)
        · have c_38 : ¬ (32767 < fm_HF (fm_RB f) i) := fun z => c0 ((nI_ltI (a := 32767) (b := fm_HF (fm_RB f) i) (by omega) (by omega)).mpr z)
          refine lv_iconst (v := nI (1)) hx hb d_MO_areNumbersSmall_41 (by decide) ?_
          refine lv_goto (tgt := 46) hx hb d_MO_areNumbersSmall_42 (by decide) ?_
          refine fm_tw (z := (fm_bI (decide (24 ≤ n) && fm_all (i + 1) (fm_sm (fm_RB f))))) (fm_smS c_24 (by first | exact Or.inl ⟨rfl, decide_eq_true (Nat.le_of_not_lt c_38)⟩ | exact Or.inr ⟨rfl, decide_eq_false (Nat.not_le.mpr c_38)⟩)) ?_
          refine lv_istore_n (lv' := [(1, .int (fm_bI (decide (24 ≤ n) && fm_all (i + 1) (fm_sm (fm_RB f))))), (0, .ref h), (2, .int (nI (i)))]) hx hb d_MO_areNumbersSmall_46 rfl hl (by decide) rfl (fun ls hl => ?_)
          refine lv_iinc (v := nI (i + 1)) (lv' := [(2, .int (nI (i + 1))), (1, .int (fm_bI (decide (24 ≤ n) && fm_all (i + 1) (fm_sm (fm_RB f))))), (0, .ref h)]) hx hb d_MO_areNumbersSmall_47 hl (k := 2) rfl (nI_1 _) (by decide) rfl (fun ls hl => ?_)
          refine lv_goto (tgt := 17) hx hb d_MO_areNumbersSmall_50 (by decide) ?_
          exact ih_17 (i + 1) ls (by omega) (by omega) (lv_sub hl [2, 1, 0] rfl)
  · have c_6 : ¬ (n < 24) := fun z => c0 ((nI_ltI (a := n) (b := 24) (by omega) (by omega)).mpr z)
    refine lv_iconst (v := nI (1)) hx hb d_MO_areNumbersSmall_9 (by decide) ?_
    refine lv_goto (tgt := 14) hx hb d_MO_areNumbersSmall_10 (by decide) ?_
    refine fm_tw (z := (fm_bI (decide (24 ≤ n) && fm_all 0 (fm_sm (fm_RB f))))) (by first | exact fm_bI_0 (by rw [decide_eq_false (Nat.not_le.mpr c_6)]; rfl) | exact fm_bI_1 (by rw [decide_eq_true (Nat.le_of_not_lt c_6)]; rfl)) ?_
    refine lv_istore_n (lv' := [(1, .int (fm_bI (decide (24 ≤ n) && fm_all 0 (fm_sm (fm_RB f))))), (0, .ref h)]) hx hb d_MO_areNumbersSmall_14 rfl hl (by decide) rfl (fun ls hl => ?_)
    refine lv_iconst (v := nI (0)) hx hb d_MO_areNumbersSmall_15 (by decide) ?_
    refine lv_istore_n (lv' := [(2, .int (nI (0))), (1, .int (fm_bI (decide (24 ≤ n) && fm_all 0 (fm_sm (fm_RB f))))), (0, .ref h)]) hx hb d_MO_areNumbersSmall_16 rfl hl (by decide) rfl (fun ls hl => ?_)
    refine fm_loop1 (LV := fun (i : Nat) => [(0, .ref h), (1, .int (fm_bI (decide (24 ≤ n) && fm_all i (fm_sm (fm_RB f))))), (2, .int (nI (i)))]) (I := fun (i : Nat) => i ≤ 12) (μ := fun (i : Nat) => 12 - i) ?_ 0 (by decide) ls (lv_sub hl [2, 1, 0] rfl)
    intro i hI_17 ih_17 ls hl
    have hl : lv_has ls 3 [(0, .ref h), (1, .int (fm_bI (decide (24 ≤ n) && fm_all i (fm_sm (fm_RB f))))), (2, .int (nI (i)))] := hl
    refine lv_iload_n hx hb d_MO_areNumbersSmall_17 rfl (lv_at hl 2 rfl) ?_
    refine lv_bipush (v := nI (12)) hx hb d_MO_areNumbersSmall_18 (by decide) ?_
    refine lv_icmp_ge (tgt := 53) hx hb d_MO_areNumbersSmall_20 (by decide) (fun c0 => ?_) (fun c0 => ?_)
    · have c_20 : 12 ≤ i := (nI_leI (a := 12) (b := i) (by omega) (by omega)).mp c0
      refine lv_iload_n hx hb d_MO_areNumbersSmall_53 rfl (lv_at hl 1 rfl) ?_
      exact W.zret (ty := .boolean) hx hb hr (fm_bI_z _) (fun t ht hW => ⟨_, rfl, by first | exact fm_bb (by rw [fm_small, show i = 12 by omega]) | exact fm_bb (fm_smX (by omega) c_24), ht⟩) (fun q hq => by cases hq) d_MO_areNumbersSmall_54
    · have c_20 : ¬ (12 ≤ i) := fun z => c0 ((nI_leI (a := 12) (b := i) (by omega) (by omega)).mpr z)
      refine lv_iload_n hx hb d_MO_areNumbersSmall_23 rfl (lv_at hl 1 rfl) ?_
      refine lv_if_eq (tgt := 53) hx hb d_MO_areNumbersSmall_24 (by decide) (fun c0 => ?_) (fun c0 => ?_)
      · have c_24 : (decide (24 ≤ n) && fm_all i (fm_sm (fm_RB f))) = false := fm_bI_f c0
        refine lv_iload_n hx hb d_MO_areNumbersSmall_53 rfl (lv_at hl 1 rfl) ?_
        exact W.zret (ty := .boolean) hx hb hr (fm_bI_z _) (fun t ht hW => ⟨_, rfl, by first | exact fm_bb (by rw [fm_small, show i = 12 by omega]) | exact fm_bb (fm_smX (by omega) c_24), ht⟩) (fun q hq => by cases hq) d_MO_areNumbersSmall_54
      · have c_24 : (decide (24 ≤ n) && fm_all i (fm_sm (fm_RB f))) = true := fm_bI_t c0
        refine lv_aload_n hx hb d_MO_areNumbersSmall_27 rfl (lv_at hl 0 rfl) ?_
        refine va_get (D := (dC, dI)) (ci := 4) (v := .ref fa) (C := R_MO) (T := F_MO) (N := 11) hx hb ht i_MO hown hK hP 0 rfl rfl 1 (by decide) (ht _ q_3_114) (fun _ h9 => h9) rfl d_MO_areNumbersSmall_28 ?_
        refine lv_iload_n hx hb d_MO_areNumbersSmall_31 rfl (lv_at hl 2 rfl) ?_
        refine fm_cs S (c_MO_half l dC dI fa cB f i (by omega)) rfl rfl k_MO_half q_3_172 ⟨Nat.le_of_ble_eq_true rfl, Nat.le_of_ble_eq_true rfl⟩ (hP.sub [1] rfl) (hK.sub [0] rfl) rfl hl.1 rfl (Nat.le_of_ble_eq_true rfl) ⟨Nat.zero_le _, Nat.zero_le _⟩ d_MO_areNumbersSmall_32 ?_
        have f0_32 := fm_HF_lt (fm_RB_lt f) i
        refine lv_sipush (v := nI (32767)) hx hb d_MO_areNumbersSmall_35 (by decide) ?_
        refine lv_icmp_gt (tgt := 45) hx hb d_MO_areNumbersSmall_38 (by decide) (fun c0 => ?_) (fun c0 => ?_)
        · have c_38 : 32767 < fm_HF (fm_RB f) i := (nI_ltI (a := 32767) (b := fm_HF (fm_RB f) i) (by omega) (by omega)).mp c0
          refine lv_iconst (v := nI (0)) hx hb d_MO_areNumbersSmall_45 (by decide) ?_
          refine fm_tw (z := (fm_bI (decide (24 ≤ n) && fm_all (i + 1) (fm_sm (fm_RB f))))) (fm_smS c_24 (by first | exact Or.inl ⟨rfl, decide_eq_true (Nat.le_of_not_lt c_38)⟩ | exact Or.inr ⟨rfl, decide_eq_false (Nat.not_le.mpr c_38)⟩)) ?_
          refine lv_istore_n (lv' := [(1, .int (fm_bI (decide (24 ≤ n) && fm_all (i + 1) (fm_sm (fm_RB f))))), (0, .ref h), (2, .int (nI (i)))]) hx hb d_MO_areNumbersSmall_46 rfl hl (by decide) rfl (fun ls hl => ?_)
          refine lv_iinc (v := nI (i + 1)) (lv' := [(2, .int (nI (i + 1))), (1, .int (fm_bI (decide (24 ≤ n) && fm_all (i + 1) (fm_sm (fm_RB f))))), (0, .ref h)]) hx hb d_MO_areNumbersSmall_47 hl (k := 2) rfl (nI_1 _) (by decide) rfl (fun ls hl => ?_)
          refine lv_goto (tgt := 17) hx hb d_MO_areNumbersSmall_50 (by decide) ?_
          exact ih_17 (i + 1) ls (by omega) (by omega) (lv_sub hl [2, 1, 0] rfl)
        · have c_38 : ¬ (32767 < fm_HF (fm_RB f) i) := fun z => c0 ((nI_ltI (a := 32767) (b := fm_HF (fm_RB f) i) (by omega) (by omega)).mpr z)
          refine lv_iconst (v := nI (1)) hx hb d_MO_areNumbersSmall_41 (by decide) ?_
          refine lv_goto (tgt := 46) hx hb d_MO_areNumbersSmall_42 (by decide) ?_
          refine fm_tw (z := (fm_bI (decide (24 ≤ n) && fm_all (i + 1) (fm_sm (fm_RB f))))) (fm_smS c_24 (by first | exact Or.inl ⟨rfl, decide_eq_true (Nat.le_of_not_lt c_38)⟩ | exact Or.inr ⟨rfl, decide_eq_false (Nat.not_le.mpr c_38)⟩)) ?_
          refine lv_istore_n (lv' := [(1, .int (fm_bI (decide (24 ≤ n) && fm_all (i + 1) (fm_sm (fm_RB f))))), (0, .ref h), (2, .int (nI (i)))]) hx hb d_MO_areNumbersSmall_46 rfl hl (by decide) rfl (fun ls hl => ?_)
          refine lv_iinc (v := nI (i + 1)) (lv' := [(2, .int (nI (i + 1))), (1, .int (fm_bI (decide (24 ≤ n) && fm_all (i + 1) (fm_sm (fm_RB f))))), (0, .ref h)]) hx hb d_MO_areNumbersSmall_47 hl (k := 2) rfl (nI_1 _) (by decide) rfl (fun ls hl => ?_)
          refine lv_goto (tgt := 17) hx hb d_MO_areNumbersSmall_50 (by decide) ?_
          exact ih_17 (i + 1) ls (by omega) (by omega) (lv_sub hl [2, 1, 0] rfl)
theorem d_MO_scaled_0 : decode b_MO_scaled 0 = .ok (.aload_n 0, 1) := by decide +kernel
theorem d_MO_scaled_1 : decode b_MO_scaled 1 = .ok (.getfield 107, 3) := by decide +kernel
theorem d_MO_scaled_4 : decode b_MO_scaled 4 = .ok (.i2l, 1) := by decide +kernel
theorem d_MO_scaled_5 : decode b_MO_scaled 5 = .ok (.lstore_n 3, 1) := by decide +kernel
theorem d_MO_scaled_6 : decode b_MO_scaled 6 = .ok (.iconst 0, 1) := by decide +kernel
theorem d_MO_scaled_7 : decode b_MO_scaled 7 = .ok (.istore 5, 2) := by decide +kernel
theorem d_MO_scaled_9 : decode b_MO_scaled 9 = .ok (.lload_n 3, 1) := by decide +kernel
theorem d_MO_scaled_10 : decode b_MO_scaled 10 = .ok (.ldc2_w 113, 3) := by decide +kernel
theorem d_MO_scaled_13 : decode b_MO_scaled 13 = .ok (.lcmp, 1) := by decide +kernel
theorem d_MO_scaled_14 : decode b_MO_scaled 14 = .ok (.ifCond .lt 15, 3) := by decide +kernel
theorem d_MO_scaled_17 : decode b_MO_scaled 17 = .ok (.lload_n 3, 1) := by decide +kernel
theorem d_MO_scaled_18 : decode b_MO_scaled 18 = .ok (.ldc2_w 115, 3) := by decide +kernel
theorem d_MO_scaled_21 : decode b_MO_scaled 21 = .ok (.ldiv, 1) := by decide +kernel
theorem d_MO_scaled_22 : decode b_MO_scaled 22 = .ok (.lstore_n 3, 1) := by decide +kernel
theorem d_MO_scaled_23 : decode b_MO_scaled 23 = .ok (.iinc 5 1, 3) := by decide +kernel
theorem d_MO_scaled_26 : decode b_MO_scaled 26 = .ok (.goto (-17), 3) := by decide +kernel
theorem d_MO_scaled_29 : decode b_MO_scaled 29 = .ok (.ldc2_w 117, 3) := by decide +kernel
theorem d_MO_scaled_32 : decode b_MO_scaled 32 = .ok (.aload_n 0, 1) := by decide +kernel
theorem d_MO_scaled_33 : decode b_MO_scaled 33 = .ok (.getfield 13, 3) := by decide +kernel
theorem d_MO_scaled_36 : decode b_MO_scaled 36 = .ok (.iload_n 1, 1) := by decide +kernel
theorem d_MO_scaled_37 : decode b_MO_scaled 37 = .ok (.iload_n 2, 1) := by decide +kernel
theorem d_MO_scaled_38 : decode b_MO_scaled 38 = .ok (.iconst 1, 1) := by decide +kernel
theorem d_MO_scaled_39 : decode b_MO_scaled 39 = .ok (.invokestatic 43, 3) := by decide +kernel
theorem d_MO_scaled_42 : decode b_MO_scaled 42 = .ok (.i2l, 1) := by decide +kernel
theorem d_MO_scaled_43 : decode b_MO_scaled 43 = .ok (.lmul, 1) := by decide +kernel
theorem d_MO_scaled_44 : decode b_MO_scaled 44 = .ok (.ldc2_w 119, 3) := by decide +kernel
theorem d_MO_scaled_47 : decode b_MO_scaled 47 = .ok (.aload_n 0, 1) := by decide +kernel
theorem d_MO_scaled_48 : decode b_MO_scaled 48 = .ok (.getfield 13, 3) := by decide +kernel
theorem d_MO_scaled_51 : decode b_MO_scaled 51 = .ok (.iload_n 1, 1) := by decide +kernel
theorem d_MO_scaled_52 : decode b_MO_scaled 52 = .ok (.iload_n 2, 1) := by decide +kernel
theorem d_MO_scaled_53 : decode b_MO_scaled 53 = .ok (.iconst 2, 1) := by decide +kernel
theorem d_MO_scaled_54 : decode b_MO_scaled 54 = .ok (.invokestatic 43, 3) := by decide +kernel
theorem d_MO_scaled_57 : decode b_MO_scaled 57 = .ok (.i2l, 1) := by decide +kernel
theorem d_MO_scaled_58 : decode b_MO_scaled 58 = .ok (.lmul, 1) := by decide +kernel
theorem d_MO_scaled_59 : decode b_MO_scaled 59 = .ok (.ladd, 1) := by decide +kernel
theorem d_MO_scaled_60 : decode b_MO_scaled 60 = .ok (.aload_n 0, 1) := by decide +kernel
theorem d_MO_scaled_61 : decode b_MO_scaled 61 = .ok (.getfield 13, 3) := by decide +kernel
theorem d_MO_scaled_64 : decode b_MO_scaled 64 = .ok (.iload_n 1, 1) := by decide +kernel
theorem d_MO_scaled_65 : decode b_MO_scaled 65 = .ok (.iload_n 2, 1) := by decide +kernel
theorem d_MO_scaled_66 : decode b_MO_scaled 66 = .ok (.iconst 3, 1) := by decide +kernel
theorem d_MO_scaled_67 : decode b_MO_scaled 67 = .ok (.invokestatic 43, 3) := by decide +kernel
theorem d_MO_scaled_70 : decode b_MO_scaled 70 = .ok (.i2l, 1) := by decide +kernel
theorem d_MO_scaled_71 : decode b_MO_scaled 71 = .ok (.ladd, 1) := by decide +kernel
theorem d_MO_scaled_72 : decode b_MO_scaled 72 = .ok (.lstore 6, 2) := by decide +kernel
theorem d_MO_scaled_74 : decode b_MO_scaled 74 = .ok (.lload 6, 2) := by decide +kernel
theorem d_MO_scaled_76 : decode b_MO_scaled 76 = .ok (.lload_n 3, 1) := by decide +kernel
theorem d_MO_scaled_77 : decode b_MO_scaled 77 = .ok (.lmul, 1) := by decide +kernel
theorem d_MO_scaled_78 : decode b_MO_scaled 78 = .ok (.bipush 20, 2) := by decide +kernel
theorem d_MO_scaled_80 : decode b_MO_scaled 80 = .ok (.iload 5, 2) := by decide +kernel
theorem d_MO_scaled_82 : decode b_MO_scaled 82 = .ok (.isub, 1) := by decide +kernel
theorem d_MO_scaled_83 : decode b_MO_scaled 83 = .ok (.lshr, 1) := by decide +kernel
theorem d_MO_scaled_84 : decode b_MO_scaled 84 = .ok (.lstore 8, 2) := by decide +kernel
theorem d_MO_scaled_86 : decode b_MO_scaled 86 = .ok (.aload_n 0, 1) := by decide +kernel
theorem d_MO_scaled_87 : decode b_MO_scaled 87 = .ok (.getfield 13, 3) := by decide +kernel
theorem d_MO_scaled_90 : decode b_MO_scaled 90 = .ok (.iload_n 1, 1) := by decide +kernel
theorem d_MO_scaled_91 : decode b_MO_scaled 91 = .ok (.iload_n 2, 1) := by decide +kernel
theorem d_MO_scaled_92 : decode b_MO_scaled 92 = .ok (.iconst 0, 1) := by decide +kernel
theorem d_MO_scaled_93 : decode b_MO_scaled 93 = .ok (.invokestatic 43, 3) := by decide +kernel
theorem d_MO_scaled_96 : decode b_MO_scaled 96 = .ok (.sipush 255, 3) := by decide +kernel
theorem d_MO_scaled_99 : decode b_MO_scaled 99 = .ok (.if_icmp .ne 15, 3) := by decide +kernel
theorem d_MO_scaled_102 : decode b_MO_scaled 102 = .ok (.lload 8, 2) := by decide +kernel
theorem d_MO_scaled_104 : decode b_MO_scaled 104 = .ok (.lload_n 3, 1) := by decide +kernel
theorem d_MO_scaled_105 : decode b_MO_scaled 105 = .ok (.iconst 4, 1) := by decide +kernel
theorem d_MO_scaled_106 : decode b_MO_scaled 106 = .ok (.iload 5, 2) := by decide +kernel
theorem d_MO_scaled_108 : decode b_MO_scaled 108 = .ok (.iadd, 1) := by decide +kernel
theorem d_MO_scaled_109 : decode b_MO_scaled 109 = .ok (.lshl, 1) := by decide +kernel
theorem d_MO_scaled_110 : decode b_MO_scaled 110 = .ok (.lsub, 1) := by decide +kernel
theorem d_MO_scaled_111 : decode b_MO_scaled 111 = .ok (.goto 5, 3) := by decide +kernel
theorem d_MO_scaled_114 : decode b_MO_scaled 114 = .ok (.lload 8, 2) := by decide +kernel
theorem d_MO_scaled_116 : decode b_MO_scaled 116 = .ok (.l2i, 1) := by decide +kernel
theorem d_MO_scaled_117 : decode b_MO_scaled 117 = .ok (.ireturn, 1) := by decide +kernel
set_option maxHeartbeats 4000000 in
set_option maxRecDepth 100000 in
theorem c_MO_scaled (l : Launch) (dC : Nat → ClassId) (dI : Nat → Nat → Nat) (h : Nat) (th : Int32) (fa : Nat) (n0 : Int32) (ga : Nat) (ld : Int32) (s0 : Nat) (ra : Nat) (rz : Int32) (ka : Nat) (wa : Nat) (ct : Int32) (cB : ClassId) (g : Nat → Int32) (p : Nat) (k : Nat) (hL : fm_Len (fm_RB g)) (hs : s0 < 134217728) (hp : p < 10) (hr : fm_ST (fm_RB g) p + k < 2048) : fm_M l (dC, dI) y_MO_scaled w_MO_scaled ({ frames := 4, cells := 0, slots := 0, locals := 88 }) [.ref h, .int (nI (p)), .int (nI (k))] [(h, .inr (4, [.int (th), .ref fa, .int (n0), .ref ga, .int (ld), .int (nI (s0)), .ref ra, .int (rz), .ref ka, .ref wa, .int (ct)])), (ga, .inl (cB, 8192, .inl (g)))] [(cB, .byte)] ((fm_sc (fm_RB g) s0 p k)) := by
  refine Met.ofW (cc := b_MO_scaled) (maxL := 10) (ret := (some .int)) (by decide) rfl ?_
  intro pg ev s m args below meth cd s₁ BD hml hv
  obtain ⟨rfl, hP, hK⟩ := hv
  have hx := BD.exec
  have hb := BD.bytes
  have hr := BD.returns
  have hts := atoms_spec (ws := w_MO_scaled) BD.pre
  have ht : ∀ w ∈ fm_T, w.before _ s = true := fun w h => hts w (List.mem_cons_of_mem _ h)
  have hown : s.vm.findClass R_MO = some m.cls := findClass_of_methodNamed BD.named
  have hlocks := BD.notSynchronized
  have S : CallFix pg m cd b_MO_scaled 10 s _ w_MO_scaled R_MO := ⟨hx, hb, hml, hown, hts⟩
  have hl := lv_entry ([.ref h, .int (nI (p)), .int (nI (k))]) (n := 10) (Nat.le_of_ble_eq_true rfl)
  rw [lg_entry_eq]
  generalize (lg_sl ([.ref h, .int (nI (p)), .int (nI (k))]) ++ List.replicate (10 - (lg_sl ([.ref h, .int (nI (p)), .int (nI (k))])).length) Slot.unset).toArray = ls at hl ⊢
  have hl : lv_has ls 10 [(0, .ref h), (1, .int (nI (p))), (2, .int (nI (k)))] := hl
  obtain ⟨-, hq, h3, h10⟩ := id hL
  have hh4 := fm_h_le s0
  refine lv_aload_n hx hb d_MO_scaled_0 rfl (lv_at hl 0 rfl) ?_
  refine va_get (D := (dC, dI)) (ci := 4) (v := .int (nI (s0))) (C := R_MO) (T := F_MO) (N := 11) hx hb ht i_MO hown hK hP 0 rfl rfl 5 (by decide) (ht _ q_3_118) (fun _ h9 => h9) rfl d_MO_scaled_1 ?_
  refine lv_i2l (v := lN (s0)) hx hb d_MO_scaled_4 (nI_l (by omega)) ?_
  refine lv_lstore_n (lv' := [(3, .long (lN (s0))), (0, .ref h), (1, .int (nI (p))), (2, .int (nI (k)))]) hx hb d_MO_scaled_5 rfl hl (by decide) rfl (fun ls hl => ?_)
  refine lv_iconst (v := nI (0)) hx hb d_MO_scaled_6 (by decide) ?_
  refine lv_istore (lv' := [(5, .int (nI (0))), (3, .long (lN (s0))), (0, .ref h), (1, .int (nI (p))), (2, .int (nI (k)))]) hx hb d_MO_scaled_7 hl (by decide) rfl (fun ls hl => ?_)
  rw [show lN s0 = lN (s0 / 2 ^ 0) by rw [Nat.pow_zero, Nat.div_one]] at hl
  refine fm_loop1 (LV := fun (i : Nat) => [(0, .ref h), (1, .int (nI (p))), (2, .int (nI (k))), (3, .long (lN (s0 / 2 ^ i))), (5, .int (nI (i)))]) (I := fun (i : Nat) => i ≤ fm_h s0) (μ := fun (i : Nat) => fm_h s0 - i) ?_ 0 (Nat.zero_le _) ls (lv_sub hl [2, 3, 4, 1, 0] rfl)
  intro i hI_9 ih_9 ls hl
  have hl : lv_has ls 10 [(0, .ref h), (1, .int (nI (p))), (2, .int (nI (k))), (3, .long (lN (s0 / 2 ^ i))), (5, .int (nI (i)))] := hl
  have hdv : s0 / 2 ^ i < 134217728 := Nat.lt_of_le_of_lt (Nat.div_le_self _ _) hs
  refine lv_lload_n hx hb d_MO_scaled_9 rfl (lv_at hl 3 rfl) ?_
  refine lv_ldc2 (own := R_MO) (v := lN 8388608) hx hb hown (ht _ q_4_10) d_MO_scaled_10 ?_
  refine W.lcmp hx hb d_MO_scaled_13 ?_
  refine lv_if_lt (tgt := 29) hx hb d_MO_scaled_14 (by decide) (fun c0 => ?_) (fun c0 => ?_)
  · have c_14 := c0
    have hz := (fm_h_iff hs hI_9).mp ((pk_lLT (by omega) (by decide)).mp (fm_lcmp.mp c_14))
    subst hz
    refine lv_ldc2 (own := R_MO) (v := lN 65536) hx hb hown (ht _ q_4_12) d_MO_scaled_29 ?_
    refine lv_aload_n hx hb d_MO_scaled_32 rfl (lv_at hl 0 rfl) ?_
    refine va_get (D := (dC, dI)) (ci := 4) (v := .ref ga) (C := R_MO) (T := F_MO) (N := 11) hx hb ht i_MO hown hK hP 0 rfl rfl 3 (by decide) (ht _ q_3_116) (fun _ h9 => h9) rfl d_MO_scaled_33 ?_
    refine lv_iload_n hx hb d_MO_scaled_36 rfl (lv_at hl 1 rfl) ?_
    refine lv_iload_n hx hb d_MO_scaled_37 rfl (lv_at hl 2 rfl) ?_
    refine lv_iconst (v := nI (1)) hx hb d_MO_scaled_38 (by decide) ?_
    refine fm_cs S (c_MO_at l dC dI ga cB g p k 1 (by omega) (hq) (by omega) (by omega)) rfl rfl k_MO_at q_3_184 ⟨Nat.le_of_ble_eq_true rfl, Nat.le_of_ble_eq_true rfl⟩ (hP.sub [1] rfl) (hK.sub [0] rfl) rfl hl.1 rfl (Nat.le_of_ble_eq_true rfl) ⟨Nat.zero_le _, Nat.zero_le _⟩ d_MO_scaled_39 ?_
    have f0_39 := fm_AT_lt (fm_RB_lt g) p k 1
    refine lv_i2l (v := lN (fm_AT (fm_RB g) p k 1)) hx hb d_MO_scaled_42 (nI_l (by omega)) ?_
    refine lv_lmul hx hb d_MO_scaled_43 ?_
    refine fm_twl (z := lN (65536 * ((fm_AT (fm_RB g) p k 1)))) (lN_mul _ _) ?_
    refine lv_ldc2 (own := R_MO) (v := lN 256) hx hb hown (ht _ q_4_13) d_MO_scaled_44 ?_
    refine lv_aload_n hx hb d_MO_scaled_47 rfl (lv_at hl 0 rfl) ?_
    refine va_get (D := (dC, dI)) (ci := 4) (v := .ref ga) (C := R_MO) (T := F_MO) (N := 11) hx hb ht i_MO hown hK hP 0 rfl rfl 3 (by decide) (ht _ q_3_116) (fun _ h9 => h9) rfl d_MO_scaled_48 ?_
    refine lv_iload_n hx hb d_MO_scaled_51 rfl (lv_at hl 1 rfl) ?_
    refine lv_iload_n hx hb d_MO_scaled_52 rfl (lv_at hl 2 rfl) ?_
    refine lv_iconst (v := nI (2)) hx hb d_MO_scaled_53 (by decide) ?_
    refine fm_cs S (c_MO_at l dC dI ga cB g p k 2 (by omega) (hq) (by omega) (by omega)) rfl rfl k_MO_at q_3_184 ⟨Nat.le_of_ble_eq_true rfl, Nat.le_of_ble_eq_true rfl⟩ (hP.sub [1] rfl) (hK.sub [0] rfl) rfl hl.1 rfl (Nat.le_of_ble_eq_true rfl) ⟨Nat.zero_le _, Nat.zero_le _⟩ d_MO_scaled_54 ?_
    have f0_54 := fm_AT_lt (fm_RB_lt g) p k 2
    refine lv_i2l (v := lN (fm_AT (fm_RB g) p k 2)) hx hb d_MO_scaled_57 (nI_l (by omega)) ?_
    refine lv_lmul hx hb d_MO_scaled_58 ?_
    refine fm_twl (z := lN (256 * ((fm_AT (fm_RB g) p k 2)))) (lN_mul _ _) ?_
    refine lv_ladd hx hb d_MO_scaled_59 ?_
    refine fm_twl (z := lN ((65536 * ((fm_AT (fm_RB g) p k 1))) + ((256 * ((fm_AT (fm_RB g) p k 2)))))) (lN_add _ _) ?_
    refine lv_aload_n hx hb d_MO_scaled_60 rfl (lv_at hl 0 rfl) ?_
    refine va_get (D := (dC, dI)) (ci := 4) (v := .ref ga) (C := R_MO) (T := F_MO) (N := 11) hx hb ht i_MO hown hK hP 0 rfl rfl 3 (by decide) (ht _ q_3_116) (fun _ h9 => h9) rfl d_MO_scaled_61 ?_
    refine lv_iload_n hx hb d_MO_scaled_64 rfl (lv_at hl 1 rfl) ?_
    refine lv_iload_n hx hb d_MO_scaled_65 rfl (lv_at hl 2 rfl) ?_
    refine lv_iconst (v := nI (3)) hx hb d_MO_scaled_66 (by decide) ?_
    refine fm_cs S (c_MO_at l dC dI ga cB g p k 3 (by omega) (hq) (by omega) (by omega)) rfl rfl k_MO_at q_3_184 ⟨Nat.le_of_ble_eq_true rfl, Nat.le_of_ble_eq_true rfl⟩ (hP.sub [1] rfl) (hK.sub [0] rfl) rfl hl.1 rfl (Nat.le_of_ble_eq_true rfl) ⟨Nat.zero_le _, Nat.zero_le _⟩ d_MO_scaled_67 ?_
    have f0_67 := fm_AT_lt (fm_RB_lt g) p k 3
    refine lv_i2l (v := lN (fm_AT (fm_RB g) p k 3)) hx hb d_MO_scaled_70 (nI_l (by omega)) ?_
    refine lv_ladd hx hb d_MO_scaled_71 ?_
    refine fm_twl (z := lN (((65536 * ((fm_AT (fm_RB g) p k 1))) + ((256 * ((fm_AT (fm_RB g) p k 2))))) + ((fm_AT (fm_RB g) p k 3)))) (lN_add _ _) ?_
    refine lv_lstore (lv' := [(6, .long (lN (((65536 * ((fm_AT (fm_RB g) p k 1))) + ((256 * ((fm_AT (fm_RB g) p k 2))))) + ((fm_AT (fm_RB g) p k 3))))), (0, .ref h), (1, .int (nI (p))), (2, .int (nI (k))), (3, .long (lN (s0 / 2 ^ (fm_h s0)))), (5, .int (nI ((fm_h s0))))]) hx hb d_MO_scaled_72 hl (by decide) rfl (fun ls hl => ?_)
    refine lv_lload hx hb d_MO_scaled_74 (lv_at hl 0 rfl) ?_
    refine lv_lload_n hx hb d_MO_scaled_76 rfl (lv_at hl 4 rfl) ?_
    refine lv_lmul hx hb d_MO_scaled_77 ?_
    refine fm_twl (z := lN (((((65536 * ((fm_AT (fm_RB g) p k 1))) + ((256 * ((fm_AT (fm_RB g) p k 2))))) + ((fm_AT (fm_RB g) p k 3)))) * ((s0 / 2 ^ (fm_h s0))))) (lN_mul _ _) ?_
    refine lv_bipush (v := nI (20)) hx hb d_MO_scaled_78 (by decide) ?_
    refine lv_iload hx hb d_MO_scaled_80 (lv_at hl 5 rfl) ?_
    refine lv_isub hx hb d_MO_scaled_82 ?_
    refine fm_tw (z := nI (20 - ((fm_h s0)))) (pk_sub (by omega)) ?_
    refine lv_lshr hx hb d_MO_scaled_83 rfl ?_
    refine lv_lstore (lv' := [(8, .long ((lN (((((65536 * ((fm_AT (fm_RB g) p k 1))) + ((256 * ((fm_AT (fm_RB g) p k 2))))) + ((fm_AT (fm_RB g) p k 3)))) * ((s0 / 2 ^ (fm_h s0))))) >>> ((nI (20 - ((fm_h s0)))).toInt64 &&& 63))), (6, .long (lN (((65536 * ((fm_AT (fm_RB g) p k 1))) + ((256 * ((fm_AT (fm_RB g) p k 2))))) + ((fm_AT (fm_RB g) p k 3))))), (0, .ref h), (1, .int (nI (p))), (2, .int (nI (k))), (3, .long (lN (s0 / 2 ^ (fm_h s0)))), (5, .int (nI ((fm_h s0))))]) hx hb d_MO_scaled_84 hl (by decide) rfl (fun ls hl => ?_)
    refine lv_aload_n hx hb d_MO_scaled_86 rfl (lv_at hl 2 rfl) ?_
    refine va_get (D := (dC, dI)) (ci := 4) (v := .ref ga) (C := R_MO) (T := F_MO) (N := 11) hx hb ht i_MO hown hK hP 0 rfl rfl 3 (by decide) (ht _ q_3_116) (fun _ h9 => h9) rfl d_MO_scaled_87 ?_
    refine lv_iload_n hx hb d_MO_scaled_90 rfl (lv_at hl 3 rfl) ?_
    refine lv_iload_n hx hb d_MO_scaled_91 rfl (lv_at hl 4 rfl) ?_
    refine lv_iconst (v := nI (0)) hx hb d_MO_scaled_92 (by decide) ?_
    refine fm_cs S (c_MO_at l dC dI ga cB g p k 0 (by omega) (hq) (by omega) (by omega)) rfl rfl k_MO_at q_3_184 ⟨Nat.le_of_ble_eq_true rfl, Nat.le_of_ble_eq_true rfl⟩ (hP.sub [1] rfl) (hK.sub [0] rfl) rfl hl.1 rfl (Nat.le_of_ble_eq_true rfl) ⟨Nat.zero_le _, Nat.zero_le _⟩ d_MO_scaled_93 ?_
    have f0_93 := fm_AT_lt (fm_RB_lt g) p k 0
    refine lv_sipush (v := nI (255)) hx hb d_MO_scaled_96 (by decide) ?_
    refine lv_icmp_ne (tgt := 114) hx hb d_MO_scaled_99 (by decide) (fun c0 => ?_) (fun c0 => ?_)
    · have c_99 : ¬ (fm_AT (fm_RB g) p k 0 = 255) := fun z => c0 ((nI_eq (a := fm_AT (fm_RB g) p k 0) (b := 255) (by omega) (by omega)).mpr z)
      refine lv_lload hx hb d_MO_scaled_114 (lv_at hl 0 rfl) ?_
      refine lv_l2i hx hb d_MO_scaled_116 rfl ?_
      exact W.iret hx hb hr (fun t ht hW => ⟨_, rfl, by first | (rw [fm_sc, if_pos c_99]; rfl) | (rw [fm_sc, if_neg c_99]; rfl), ht⟩) (fun q hq => by cases hq) d_MO_scaled_117
    · have c_99 : fm_AT (fm_RB g) p k 0 = 255 := (nI_eq (a := fm_AT (fm_RB g) p k 0) (b := 255) (by omega) (by omega)).mp c0
      refine lv_lload hx hb d_MO_scaled_102 (lv_at hl 0 rfl) ?_
      refine lv_lload_n hx hb d_MO_scaled_104 rfl (lv_at hl 5 rfl) ?_
      refine lv_iconst (v := nI (4)) hx hb d_MO_scaled_105 (by decide) ?_
      refine lv_iload hx hb d_MO_scaled_106 (lv_at hl 6 rfl) ?_
      refine lv_iadd hx hb d_MO_scaled_108 ?_
      refine fm_tw (z := nI (4 + (fm_h s0))) (nI_add _ _) ?_
      refine lv_lshl hx hb d_MO_scaled_109 rfl ?_
      refine lv_lsub hx hb d_MO_scaled_110 ?_
      refine lv_goto (tgt := 116) hx hb d_MO_scaled_111 (by decide) ?_
      refine lv_l2i hx hb d_MO_scaled_116 rfl ?_
      exact W.iret hx hb hr (fun t ht hW => ⟨_, rfl, by first | (rw [fm_sc, if_pos c_99]; rfl) | (rw [fm_sc, if_neg c_99]; rfl), ht⟩) (fun q hq => by cases hq) d_MO_scaled_117
  · have c_14 := c0
    have hne : i ≠ fm_h s0 := fun z => c_14 (fm_lcmp.mpr ((pk_lLT (by omega) (by decide)).mpr ((fm_h_iff hs hI_9).mpr z)))
    refine lv_lload_n hx hb d_MO_scaled_17 rfl (lv_at hl 3 rfl) ?_
    refine lv_ldc2 (own := R_MO) (v := lN 2) hx hb hown (ht _ q_4_11) d_MO_scaled_18 ?_
    refine lv_ldiv hx hb d_MO_scaled_21 (by decide) ?_
    refine fm_twl (z := lN (s0 / 2 ^ (i + 1))) (by rw [← fm_h_half]; exact pk_lDiv (by omega) (by decide) (by decide)) ?_
    refine lv_lstore_n (lv' := [(3, .long (lN (s0 / 2 ^ (i + 1)))), (0, .ref h), (1, .int (nI (p))), (2, .int (nI (k))), (5, .int (nI (i)))]) hx hb d_MO_scaled_22 rfl hl (by decide) rfl (fun ls hl => ?_)
    refine lv_iinc (v := nI (i + 1)) (lv' := [(5, .int (nI (i + 1))), (3, .long (lN (s0 / 2 ^ (i + 1)))), (0, .ref h), (1, .int (nI (p))), (2, .int (nI (k)))]) hx hb d_MO_scaled_23 hl (k := 4) rfl (nI_1 _) (by decide) rfl (fun ls hl => ?_)
    refine lv_goto (tgt := 9) hx hb d_MO_scaled_26 (by decide) ?_
    exact ih_9 (i + 1) ls (by omega) (by omega) (lv_sub hl [2, 3, 4, 1, 0] rfl)
theorem d_MO_sizeOf_0 : decode b_MO_sizeOf 0 = .ok (.iload_n 1, 1) := by decide +kernel
theorem d_MO_sizeOf_1 : decode b_MO_sizeOf 1 = .ok (.aload_n 0, 1) := by decide +kernel
theorem d_MO_sizeOf_2 : decode b_MO_sizeOf 2 = .ok (.getfield 13, 3) := by decide +kernel
theorem d_MO_sizeOf_5 : decode b_MO_sizeOf 5 = .ok (.iconst 2, 1) := by decide +kernel
theorem d_MO_sizeOf_6 : decode b_MO_sizeOf 6 = .ok (.invokestatic 33, 3) := by decide +kernel
theorem d_MO_sizeOf_9 : decode b_MO_sizeOf 9 = .ok (.isub, 1) := by decide +kernel
theorem d_MO_sizeOf_10 : decode b_MO_sizeOf 10 = .ok (.istore_n 3, 1) := by decide +kernel
theorem d_MO_sizeOf_11 : decode b_MO_sizeOf 11 = .ok (.iload_n 2, 1) := by decide +kernel
theorem d_MO_sizeOf_12 : decode b_MO_sizeOf 12 = .ok (.ifCond .ne 16, 3) := by decide +kernel
theorem d_MO_sizeOf_15 : decode b_MO_sizeOf 15 = .ok (.aload_n 0, 1) := by decide +kernel
theorem d_MO_sizeOf_16 : decode b_MO_sizeOf 16 = .ok (.getfield 13, 3) := by decide +kernel
theorem d_MO_sizeOf_19 : decode b_MO_sizeOf 19 = .ok (.iconst 1, 1) := by decide +kernel
theorem d_MO_sizeOf_20 : decode b_MO_sizeOf 20 = .ok (.iload_n 3, 1) := by decide +kernel
theorem d_MO_sizeOf_21 : decode b_MO_sizeOf 21 = .ok (.iconst 0, 1) := by decide +kernel
theorem d_MO_sizeOf_22 : decode b_MO_sizeOf 22 = .ok (.invokestatic 43, 3) := by decide +kernel
theorem d_MO_sizeOf_25 : decode b_MO_sizeOf 25 = .ok (.goto 57, 3) := by decide +kernel
theorem d_MO_sizeOf_28 : decode b_MO_sizeOf 28 = .ok (.iload_n 2, 1) := by decide +kernel
theorem d_MO_sizeOf_29 : decode b_MO_sizeOf 29 = .ok (.iconst 1, 1) := by decide +kernel
theorem d_MO_sizeOf_30 : decode b_MO_sizeOf 30 = .ok (.if_icmp .ne 19, 3) := by decide +kernel
theorem d_MO_sizeOf_33 : decode b_MO_sizeOf 33 = .ok (.aload_n 0, 1) := by decide +kernel
theorem d_MO_sizeOf_34 : decode b_MO_sizeOf 34 = .ok (.getfield 13, 3) := by decide +kernel
theorem d_MO_sizeOf_37 : decode b_MO_sizeOf 37 = .ok (.iconst 1, 1) := by decide +kernel
theorem d_MO_sizeOf_38 : decode b_MO_sizeOf 38 = .ok (.iload_n 3, 1) := by decide +kernel
theorem d_MO_sizeOf_39 : decode b_MO_sizeOf 39 = .ok (.iconst 1, 1) := by decide +kernel
theorem d_MO_sizeOf_40 : decode b_MO_sizeOf 40 = .ok (.invokestatic 43, 3) := by decide +kernel
theorem d_MO_sizeOf_43 : decode b_MO_sizeOf 43 = .ok (.bipush 16, 2) := by decide +kernel
theorem d_MO_sizeOf_45 : decode b_MO_sizeOf 45 = .ok (.idiv, 1) := by decide +kernel
theorem d_MO_sizeOf_46 : decode b_MO_sizeOf 46 = .ok (.goto 36, 3) := by decide +kernel
theorem d_MO_sizeOf_49 : decode b_MO_sizeOf 49 = .ok (.iload_n 2, 1) := by decide +kernel
theorem d_MO_sizeOf_50 : decode b_MO_sizeOf 50 = .ok (.iconst 2, 1) := by decide +kernel
theorem d_MO_sizeOf_51 : decode b_MO_sizeOf 51 = .ok (.if_icmp .ne 19, 3) := by decide +kernel
theorem d_MO_sizeOf_54 : decode b_MO_sizeOf 54 = .ok (.aload_n 0, 1) := by decide +kernel
theorem d_MO_sizeOf_55 : decode b_MO_sizeOf 55 = .ok (.getfield 13, 3) := by decide +kernel
theorem d_MO_sizeOf_58 : decode b_MO_sizeOf 58 = .ok (.iconst 1, 1) := by decide +kernel
theorem d_MO_sizeOf_59 : decode b_MO_sizeOf 59 = .ok (.iload_n 3, 1) := by decide +kernel
theorem d_MO_sizeOf_60 : decode b_MO_sizeOf 60 = .ok (.iconst 1, 1) := by decide +kernel
theorem d_MO_sizeOf_61 : decode b_MO_sizeOf 61 = .ok (.invokestatic 43, 3) := by decide +kernel
theorem d_MO_sizeOf_64 : decode b_MO_sizeOf 64 = .ok (.bipush 16, 2) := by decide +kernel
theorem d_MO_sizeOf_66 : decode b_MO_sizeOf 66 = .ok (.irem, 1) := by decide +kernel
theorem d_MO_sizeOf_67 : decode b_MO_sizeOf 67 = .ok (.goto 15, 3) := by decide +kernel
theorem d_MO_sizeOf_70 : decode b_MO_sizeOf 70 = .ok (.aload_n 0, 1) := by decide +kernel
theorem d_MO_sizeOf_71 : decode b_MO_sizeOf 71 = .ok (.getfield 13, 3) := by decide +kernel
theorem d_MO_sizeOf_74 : decode b_MO_sizeOf 74 = .ok (.iconst 1, 1) := by decide +kernel
theorem d_MO_sizeOf_75 : decode b_MO_sizeOf 75 = .ok (.iload_n 3, 1) := by decide +kernel
theorem d_MO_sizeOf_76 : decode b_MO_sizeOf 76 = .ok (.iconst 2, 1) := by decide +kernel
theorem d_MO_sizeOf_77 : decode b_MO_sizeOf 77 = .ok (.invokestatic 43, 3) := by decide +kernel
theorem d_MO_sizeOf_80 : decode b_MO_sizeOf 80 = .ok (.iconst 4, 1) := by decide +kernel
theorem d_MO_sizeOf_81 : decode b_MO_sizeOf 81 = .ok (.idiv, 1) := by decide +kernel
theorem d_MO_sizeOf_82 : decode b_MO_sizeOf 82 = .ok (.istore 4, 2) := by decide +kernel
theorem d_MO_sizeOf_84 : decode b_MO_sizeOf 84 = .ok (.aload_n 0, 1) := by decide +kernel
theorem d_MO_sizeOf_85 : decode b_MO_sizeOf 85 = .ok (.iconst 2, 1) := by decide +kernel
theorem d_MO_sizeOf_86 : decode b_MO_sizeOf 86 = .ok (.iload_n 2, 1) := by decide +kernel
theorem d_MO_sizeOf_87 : decode b_MO_sizeOf 87 = .ok (.iadd, 1) := by decide +kernel
theorem d_MO_sizeOf_88 : decode b_MO_sizeOf 88 = .ok (.iload 4, 2) := by decide +kernel
theorem d_MO_sizeOf_90 : decode b_MO_sizeOf 90 = .ok (.invokevirtual 124, 3) := by decide +kernel
theorem d_MO_sizeOf_93 : decode b_MO_sizeOf 93 = .ok (.ireturn, 1) := by decide +kernel
set_option maxHeartbeats 4000000 in
set_option maxRecDepth 100000 in
theorem c_MO_sizeOf (l : Launch) (dC : Nat → ClassId) (dI : Nat → Nat → Nat) (h : Nat) (th : Int32) (fa : Nat) (n0 : Int32) (ga : Nat) (ld : Int32) (s0 : Nat) (ra : Nat) (rz : Int32) (ka : Nat) (wa : Nat) (ct : Int32) (cB : ClassId) (g : Nat → Int32) (c : Nat) (w : Nat) (hL : fm_Len (fm_RB g)) (h1 : fm_HF (fm_RB g) 2 ≤ c) (h2 : c ≤ fm_HF (fm_RB g) 3) (hz : fm_all (fm_WD (fm_RB g) 1) (fm_size1 (fm_RB g)) = true) (hs : s0 < 134217728) (hw : w < 4) : fm_M l (dC, dI) y_MO_sizeOf w_MO_sizeOf ({ frames := 5, cells := 0, slots := 0, locals := 117 }) [.ref h, .int (nI (c)), .int (nI (w))] [(h, .inr (4, [.int (th), .ref fa, .int (n0), .ref ga, .int (ld), .int (nI (s0)), .ref ra, .int (rz), .ref ka, .ref wa, .int (ct)])), (ga, .inl (cB, 8192, .inl (g)))] [(cB, .byte)] ((fm_sc (fm_RB g) s0 (2 + w) (fm_pl (fm_RB g) c w))) := by
  refine Met.ofW (cc := b_MO_sizeOf) (maxL := 5) (ret := (some .int)) (by decide) rfl ?_
  intro pg ev s m args below meth cd s₁ BD hml hv
  obtain ⟨rfl, hP, hK⟩ := hv
  have hx := BD.exec
  have hb := BD.bytes
  have hr := BD.returns
  have hts := atoms_spec (ws := w_MO_sizeOf) BD.pre
  have ht : ∀ w ∈ fm_T, w.before _ s = true := fun w h => hts w (List.mem_cons_of_mem _ h)
  have hown : s.vm.findClass R_MO = some m.cls := findClass_of_methodNamed BD.named
  have hlocks := BD.notSynchronized
  have S : CallFix pg m cd b_MO_sizeOf 5 s _ w_MO_sizeOf R_MO := ⟨hx, hb, hml, hown, hts⟩
  have hl := lv_entry ([.ref h, .int (nI (c)), .int (nI (w))]) (n := 5) (Nat.le_of_ble_eq_true rfl)
  rw [lg_entry_eq]
  generalize (lg_sl ([.ref h, .int (nI (c)), .int (nI (w))]) ++ List.replicate (5 - (lg_sl ([.ref h, .int (nI (c)), .int (nI (w))])).length) Slot.unset).toArray = ls at hl ⊢
  have hl : lv_has ls 5 [(0, .ref h), (1, .int (nI (c))), (2, .int (nI (w)))] := hl
  obtain ⟨-, hq, h3, h10⟩ := id hL
  have hci := fm_cin hL h1 h2
  have hpl := fm_pl_lt hz h1 h2 hw
  refine lv_iload_n hx hb d_MO_sizeOf_0 rfl (lv_at hl 1 rfl) ?_
  refine lv_aload_n hx hb d_MO_sizeOf_1 rfl (lv_at hl 0 rfl) ?_
  refine va_get (D := (dC, dI)) (ci := 4) (v := .ref ga) (C := R_MO) (T := F_MO) (N := 11) hx hb ht i_MO hown hK hP 0 rfl rfl 3 (by decide) (ht _ q_3_116) (fun _ h9 => h9) rfl d_MO_sizeOf_2 ?_
  refine lv_iconst (v := nI (2)) hx hb d_MO_sizeOf_5 (by decide) ?_
  refine fm_cs S (c_MO_half l dC dI ga cB g 2 (by omega)) rfl rfl k_MO_half q_3_172 ⟨Nat.le_of_ble_eq_true rfl, Nat.le_of_ble_eq_true rfl⟩ (hP.sub [1] rfl) (hK.sub [0] rfl) rfl hl.1 rfl (Nat.le_of_ble_eq_true rfl) ⟨Nat.zero_le _, Nat.zero_le _⟩ d_MO_sizeOf_6 ?_
  have f0_6 := fm_HF_lt (fm_RB_lt g) 2
  refine lv_isub hx hb d_MO_sizeOf_9 ?_
  refine fm_tw (z := nI (c - (fm_HF (fm_RB g) 2))) (pk_sub (by omega)) ?_
  refine lv_istore_n (lv' := [(3, .int (nI (c - (fm_HF (fm_RB g) 2)))), (0, .ref h), (1, .int (nI (c))), (2, .int (nI (w)))]) hx hb d_MO_sizeOf_10 rfl hl (by decide) rfl (fun ls hl => ?_)
  refine lv_iload_n hx hb d_MO_sizeOf_11 rfl (lv_at hl 3 rfl) ?_
  refine lv_if_ne (tgt := 28) hx hb d_MO_sizeOf_12 (by decide) (fun c0 => ?_) (fun c0 => ?_)
  · have c_12 : ¬ (w = 0) := fun z => c0 ((nI_eq (a := w) (b := 0) (by omega) (by omega)).mpr z)
    refine lv_iload_n hx hb d_MO_sizeOf_28 rfl (lv_at hl 3 rfl) ?_
    refine lv_iconst (v := nI (1)) hx hb d_MO_sizeOf_29 (by decide) ?_
    refine lv_icmp_ne (tgt := 49) hx hb d_MO_sizeOf_30 (by decide) (fun c0 => ?_) (fun c0 => ?_)
    · have c_30 : ¬ (w = 1) := fun z => c0 ((nI_eq (a := w) (b := 1) (by omega) (by omega)).mpr z)
      refine lv_iload_n hx hb d_MO_sizeOf_49 rfl (lv_at hl 3 rfl) ?_
      refine lv_iconst (v := nI (2)) hx hb d_MO_sizeOf_50 (by decide) ?_
      refine lv_icmp_ne (tgt := 70) hx hb d_MO_sizeOf_51 (by decide) (fun c0 => ?_) (fun c0 => ?_)
      · have c_51 : ¬ (w = 2) := fun z => c0 ((nI_eq (a := w) (b := 2) (by omega) (by omega)).mpr z)
        refine lv_aload_n hx hb d_MO_sizeOf_70 rfl (lv_at hl 1 rfl) ?_
        refine va_get (D := (dC, dI)) (ci := 4) (v := .ref ga) (C := R_MO) (T := F_MO) (N := 11) hx hb ht i_MO hown hK hP 0 rfl rfl 3 (by decide) (ht _ q_3_116) (fun _ h9 => h9) rfl d_MO_sizeOf_71 ?_
        refine lv_iconst (v := nI (1)) hx hb d_MO_sizeOf_74 (by decide) ?_
        refine lv_iload_n hx hb d_MO_sizeOf_75 rfl (lv_at hl 0 rfl) ?_
        refine lv_iconst (v := nI (2)) hx hb d_MO_sizeOf_76 (by decide) ?_
        refine fm_cs S (c_MO_at l dC dI ga cB g 1 (c - (fm_HF (fm_RB g) 2)) 2 (by omega) (hq) (by omega) (by omega)) rfl rfl k_MO_at q_3_184 ⟨Nat.le_of_ble_eq_true rfl, Nat.le_of_ble_eq_true rfl⟩ (hP.sub [1] rfl) (hK.sub [0] rfl) rfl hl.1 rfl (Nat.le_of_ble_eq_true rfl) ⟨Nat.zero_le _, Nat.zero_le _⟩ d_MO_sizeOf_77 ?_
        have f0_77 := fm_AT_lt (fm_RB_lt g) 1 (c - (fm_HF (fm_RB g) 2)) 2
        refine lv_iconst (v := nI (4)) hx hb d_MO_sizeOf_80 (by decide) ?_
        refine lv_idiv hx hb d_MO_sizeOf_81 (by decide) ?_
        refine fm_tw (z := nI ((fm_AT (fm_RB g) 1 (c - (fm_HF (fm_RB g) 2)) 2) / 4)) (pk_div (by omega) (by omega) (by omega)) ?_
        refine fm_tw (z := nI (fm_pl (fm_RB g) c w)) (by first | (rw [c_12]; rfl) | (rw [c_30]; rfl) | (rw [c_51]; rfl) | (rw [show w = 3 by omega]; rfl)) ?_
        refine lv_istore (lv' := [(4, .int (nI (fm_pl (fm_RB g) c w))), (3, .int (nI (c - (fm_HF (fm_RB g) 2)))), (0, .ref h), (1, .int (nI (c))), (2, .int (nI (w)))]) hx hb d_MO_sizeOf_82 hl (by decide) rfl (fun ls hl => ?_)
        refine lv_aload_n hx hb d_MO_sizeOf_84 rfl (lv_at hl 2 rfl) ?_
        refine lv_iconst (v := nI (2)) hx hb d_MO_sizeOf_85 (by decide) ?_
        refine lv_iload_n hx hb d_MO_sizeOf_86 rfl (lv_at hl 4 rfl) ?_
        refine lv_iadd hx hb d_MO_sizeOf_87 ?_
        refine fm_tw (z := nI (2 + w)) (nI_add _ _) ?_
        refine lv_iload hx hb d_MO_sizeOf_88 (lv_at hl 0 rfl) ?_
        refine fm_cv S (c_MO_scaled l dC dI h th fa n0 ga ld s0 ra rz ka wa ct cB g (2 + w) (fm_pl (fm_RB g) c w) (hL) (by omega) (by omega) (fm_pin hL (by omega) hpl)) rfl rfl k_MO_scaled q_4_6 ⟨Nat.le_of_ble_eq_true rfl, Nat.le_of_ble_eq_true rfl⟩ (hP.sub [0, 1] rfl) (hK.sub [0] rfl) 0 rfl rfl rfl hl.1 rfl (Nat.le_of_ble_eq_true rfl) ⟨Nat.zero_le _, Nat.zero_le _⟩ d_MO_sizeOf_90 ?_
        exact W.iret hx hb hr (fun t ht hW => ⟨_, rfl, rfl, ht⟩) (fun q hq => by cases hq) d_MO_sizeOf_93
      · have c_51 : w = 2 := (nI_eq (a := w) (b := 2) (by omega) (by omega)).mp c0
        refine lv_aload_n hx hb d_MO_sizeOf_54 rfl (lv_at hl 1 rfl) ?_
        refine va_get (D := (dC, dI)) (ci := 4) (v := .ref ga) (C := R_MO) (T := F_MO) (N := 11) hx hb ht i_MO hown hK hP 0 rfl rfl 3 (by decide) (ht _ q_3_116) (fun _ h9 => h9) rfl d_MO_sizeOf_55 ?_
        refine lv_iconst (v := nI (1)) hx hb d_MO_sizeOf_58 (by decide) ?_
        refine lv_iload_n hx hb d_MO_sizeOf_59 rfl (lv_at hl 0 rfl) ?_
        refine lv_iconst (v := nI (1)) hx hb d_MO_sizeOf_60 (by decide) ?_
        refine fm_cs S (c_MO_at l dC dI ga cB g 1 (c - (fm_HF (fm_RB g) 2)) 1 (by omega) (hq) (by omega) (by omega)) rfl rfl k_MO_at q_3_184 ⟨Nat.le_of_ble_eq_true rfl, Nat.le_of_ble_eq_true rfl⟩ (hP.sub [1] rfl) (hK.sub [0] rfl) rfl hl.1 rfl (Nat.le_of_ble_eq_true rfl) ⟨Nat.zero_le _, Nat.zero_le _⟩ d_MO_sizeOf_61 ?_
        have f0_61 := fm_AT_lt (fm_RB_lt g) 1 (c - (fm_HF (fm_RB g) 2)) 1
        refine lv_bipush (v := nI (16)) hx hb d_MO_sizeOf_64 (by decide) ?_
        refine lv_irem hx hb d_MO_sizeOf_66 (by decide) ?_
        refine fm_tw (z := nI ((fm_AT (fm_RB g) 1 (c - (fm_HF (fm_RB g) 2)) 1) % 16)) (pk_rem (by omega) (by omega) (by omega)) ?_
        refine lv_goto (tgt := 82) hx hb d_MO_sizeOf_67 (by decide) ?_
        refine fm_tw (z := nI (fm_pl (fm_RB g) c w)) (by first | (rw [c_12]; rfl) | (rw [c_30]; rfl) | (rw [c_51]; rfl) | (rw [show w = 3 by omega]; rfl)) ?_
        refine lv_istore (lv' := [(4, .int (nI (fm_pl (fm_RB g) c w))), (3, .int (nI (c - (fm_HF (fm_RB g) 2)))), (0, .ref h), (1, .int (nI (c))), (2, .int (nI (w)))]) hx hb d_MO_sizeOf_82 hl (by decide) rfl (fun ls hl => ?_)
        refine lv_aload_n hx hb d_MO_sizeOf_84 rfl (lv_at hl 2 rfl) ?_
        refine lv_iconst (v := nI (2)) hx hb d_MO_sizeOf_85 (by decide) ?_
        refine lv_iload_n hx hb d_MO_sizeOf_86 rfl (lv_at hl 4 rfl) ?_
        refine lv_iadd hx hb d_MO_sizeOf_87 ?_
        refine fm_tw (z := nI (2 + w)) (nI_add _ _) ?_
        refine lv_iload hx hb d_MO_sizeOf_88 (lv_at hl 0 rfl) ?_
        refine fm_cv S (c_MO_scaled l dC dI h th fa n0 ga ld s0 ra rz ka wa ct cB g (2 + w) (fm_pl (fm_RB g) c w) (hL) (by omega) (by omega) (fm_pin hL (by omega) hpl)) rfl rfl k_MO_scaled q_4_6 ⟨Nat.le_of_ble_eq_true rfl, Nat.le_of_ble_eq_true rfl⟩ (hP.sub [0, 1] rfl) (hK.sub [0] rfl) 0 rfl rfl rfl hl.1 rfl (Nat.le_of_ble_eq_true rfl) ⟨Nat.zero_le _, Nat.zero_le _⟩ d_MO_sizeOf_90 ?_
        exact W.iret hx hb hr (fun t ht hW => ⟨_, rfl, rfl, ht⟩) (fun q hq => by cases hq) d_MO_sizeOf_93
    · have c_30 : w = 1 := (nI_eq (a := w) (b := 1) (by omega) (by omega)).mp c0
      refine lv_aload_n hx hb d_MO_sizeOf_33 rfl (lv_at hl 1 rfl) ?_
      refine va_get (D := (dC, dI)) (ci := 4) (v := .ref ga) (C := R_MO) (T := F_MO) (N := 11) hx hb ht i_MO hown hK hP 0 rfl rfl 3 (by decide) (ht _ q_3_116) (fun _ h9 => h9) rfl d_MO_sizeOf_34 ?_
      refine lv_iconst (v := nI (1)) hx hb d_MO_sizeOf_37 (by decide) ?_
      refine lv_iload_n hx hb d_MO_sizeOf_38 rfl (lv_at hl 0 rfl) ?_
      refine lv_iconst (v := nI (1)) hx hb d_MO_sizeOf_39 (by decide) ?_
      refine fm_cs S (c_MO_at l dC dI ga cB g 1 (c - (fm_HF (fm_RB g) 2)) 1 (by omega) (hq) (by omega) (by omega)) rfl rfl k_MO_at q_3_184 ⟨Nat.le_of_ble_eq_true rfl, Nat.le_of_ble_eq_true rfl⟩ (hP.sub [1] rfl) (hK.sub [0] rfl) rfl hl.1 rfl (Nat.le_of_ble_eq_true rfl) ⟨Nat.zero_le _, Nat.zero_le _⟩ d_MO_sizeOf_40 ?_
      have f0_40 := fm_AT_lt (fm_RB_lt g) 1 (c - (fm_HF (fm_RB g) 2)) 1
      refine lv_bipush (v := nI (16)) hx hb d_MO_sizeOf_43 (by decide) ?_
      refine lv_idiv hx hb d_MO_sizeOf_45 (by decide) ?_
      refine fm_tw (z := nI ((fm_AT (fm_RB g) 1 (c - (fm_HF (fm_RB g) 2)) 1) / 16)) (pk_div (by omega) (by omega) (by omega)) ?_
      refine lv_goto (tgt := 82) hx hb d_MO_sizeOf_46 (by decide) ?_
      refine fm_tw (z := nI (fm_pl (fm_RB g) c w)) (by first | (rw [c_12]; rfl) | (rw [c_30]; rfl) | (rw [c_51]; rfl) | (rw [show w = 3 by omega]; rfl)) ?_
      refine lv_istore (lv' := [(4, .int (nI (fm_pl (fm_RB g) c w))), (3, .int (nI (c - (fm_HF (fm_RB g) 2)))), (0, .ref h), (1, .int (nI (c))), (2, .int (nI (w)))]) hx hb d_MO_sizeOf_82 hl (by decide) rfl (fun ls hl => ?_)
      refine lv_aload_n hx hb d_MO_sizeOf_84 rfl (lv_at hl 2 rfl) ?_
      refine lv_iconst (v := nI (2)) hx hb d_MO_sizeOf_85 (by decide) ?_
      refine lv_iload_n hx hb d_MO_sizeOf_86 rfl (lv_at hl 4 rfl) ?_
      refine lv_iadd hx hb d_MO_sizeOf_87 ?_
      refine fm_tw (z := nI (2 + w)) (nI_add _ _) ?_
      refine lv_iload hx hb d_MO_sizeOf_88 (lv_at hl 0 rfl) ?_
      refine fm_cv S (c_MO_scaled l dC dI h th fa n0 ga ld s0 ra rz ka wa ct cB g (2 + w) (fm_pl (fm_RB g) c w) (hL) (by omega) (by omega) (fm_pin hL (by omega) hpl)) rfl rfl k_MO_scaled q_4_6 ⟨Nat.le_of_ble_eq_true rfl, Nat.le_of_ble_eq_true rfl⟩ (hP.sub [0, 1] rfl) (hK.sub [0] rfl) 0 rfl rfl rfl hl.1 rfl (Nat.le_of_ble_eq_true rfl) ⟨Nat.zero_le _, Nat.zero_le _⟩ d_MO_sizeOf_90 ?_
      exact W.iret hx hb hr (fun t ht hW => ⟨_, rfl, rfl, ht⟩) (fun q hq => by cases hq) d_MO_sizeOf_93
  · have c_12 : w = 0 := (nI_eq (a := w) (b := 0) (by omega) (by omega)).mp c0
    refine lv_aload_n hx hb d_MO_sizeOf_15 rfl (lv_at hl 1 rfl) ?_
    refine va_get (D := (dC, dI)) (ci := 4) (v := .ref ga) (C := R_MO) (T := F_MO) (N := 11) hx hb ht i_MO hown hK hP 0 rfl rfl 3 (by decide) (ht _ q_3_116) (fun _ h9 => h9) rfl d_MO_sizeOf_16 ?_
    refine lv_iconst (v := nI (1)) hx hb d_MO_sizeOf_19 (by decide) ?_
    refine lv_iload_n hx hb d_MO_sizeOf_20 rfl (lv_at hl 0 rfl) ?_
    refine lv_iconst (v := nI (0)) hx hb d_MO_sizeOf_21 (by decide) ?_
    refine fm_cs S (c_MO_at l dC dI ga cB g 1 (c - (fm_HF (fm_RB g) 2)) 0 (by omega) (hq) (by omega) (by omega)) rfl rfl k_MO_at q_3_184 ⟨Nat.le_of_ble_eq_true rfl, Nat.le_of_ble_eq_true rfl⟩ (hP.sub [1] rfl) (hK.sub [0] rfl) rfl hl.1 rfl (Nat.le_of_ble_eq_true rfl) ⟨Nat.zero_le _, Nat.zero_le _⟩ d_MO_sizeOf_22 ?_
    have f0_22 := fm_AT_lt (fm_RB_lt g) 1 (c - (fm_HF (fm_RB g) 2)) 0
    refine lv_goto (tgt := 82) hx hb d_MO_sizeOf_25 (by decide) ?_
    refine fm_tw (z := nI (fm_pl (fm_RB g) c w)) (by first | (rw [c_12]; rfl) | (rw [c_30]; rfl) | (rw [c_51]; rfl) | (rw [show w = 3 by omega]; rfl)) ?_
    refine lv_istore (lv' := [(4, .int (nI (fm_pl (fm_RB g) c w))), (3, .int (nI (c - (fm_HF (fm_RB g) 2)))), (0, .ref h), (1, .int (nI (c))), (2, .int (nI (w)))]) hx hb d_MO_sizeOf_82 hl (by decide) rfl (fun ls hl => ?_)
    refine lv_aload_n hx hb d_MO_sizeOf_84 rfl (lv_at hl 2 rfl) ?_
    refine lv_iconst (v := nI (2)) hx hb d_MO_sizeOf_85 (by decide) ?_
    refine lv_iload_n hx hb d_MO_sizeOf_86 rfl (lv_at hl 4 rfl) ?_
    refine lv_iadd hx hb d_MO_sizeOf_87 ?_
    refine fm_tw (z := nI (2 + w)) (nI_add _ _) ?_
    refine lv_iload hx hb d_MO_sizeOf_88 (lv_at hl 0 rfl) ?_
    refine fm_cv S (c_MO_scaled l dC dI h th fa n0 ga ld s0 ra rz ka wa ct cB g (2 + w) (fm_pl (fm_RB g) c w) (hL) (by omega) (by omega) (fm_pin hL (by omega) hpl)) rfl rfl k_MO_scaled q_4_6 ⟨Nat.le_of_ble_eq_true rfl, Nat.le_of_ble_eq_true rfl⟩ (hP.sub [0, 1] rfl) (hK.sub [0] rfl) 0 rfl rfl rfl hl.1 rfl (Nat.le_of_ble_eq_true rfl) ⟨Nat.zero_le _, Nat.zero_le _⟩ d_MO_sizeOf_90 ?_
    exact W.iret hx hb hr (fun t ht hW => ⟨_, rfl, rfl, ht⟩) (fun q hq => by cases hq) d_MO_sizeOf_93
theorem d_MO_mayAsk_0 : decode b_MO_mayAsk 0 = .ok (.iload_n 1, 1) := by decide +kernel
theorem d_MO_mayAsk_1 : decode b_MO_mayAsk 1 = .ok (.sipush 256, 3) := by decide +kernel
theorem d_MO_mayAsk_4 : decode b_MO_mayAsk 4 = .ok (.if_icmp .eq 14, 3) := by decide +kernel
theorem d_MO_mayAsk_7 : decode b_MO_mayAsk 7 = .ok (.aload_n 0, 1) := by decide +kernel
theorem d_MO_mayAsk_8 : decode b_MO_mayAsk 8 = .ok (.getfield 13, 3) := by decide +kernel
theorem d_MO_mayAsk_11 : decode b_MO_mayAsk 11 = .ok (.iload_n 1, 1) := by decide +kernel
theorem d_MO_mayAsk_12 : decode b_MO_mayAsk 12 = .ok (.invokestatic 53, 3) := by decide +kernel
theorem d_MO_mayAsk_15 : decode b_MO_mayAsk 15 = .ok (.ifCond .eq 7, 3) := by decide +kernel
theorem d_MO_mayAsk_18 : decode b_MO_mayAsk 18 = .ok (.iconst 1, 1) := by decide +kernel
theorem d_MO_mayAsk_19 : decode b_MO_mayAsk 19 = .ok (.goto 4, 3) := by decide +kernel
theorem d_MO_mayAsk_22 : decode b_MO_mayAsk 22 = .ok (.iconst 0, 1) := by decide +kernel
theorem d_MO_mayAsk_23 : decode b_MO_mayAsk 23 = .ok (.ireturn, 1) := by decide +kernel
set_option maxHeartbeats 4000000 in
set_option maxRecDepth 100000 in
theorem c_MO_mayAsk (l : Launch) (dC : Nat → ClassId) (dI : Nat → Nat → Nat) (h : Nat) (th : Int32) (fa : Nat) (n0 : Int32) (ga : Nat) (ld : Int32) (sz : Int32) (ra : Nat) (rz : Int32) (ka : Nat) (wa : Nat) (ct : Int32) (cB : ClassId) (g : Nat → Int32) (x : Int32) (hL : fm_Len (fm_RB g)) : fm_M l (dC, dI) y_MO_mayAsk w_MO_mayAsk ({ frames := 5, cells := 0, slots := 0, locals := 109 }) [.ref h, .int (x)] [(h, .inr (4, [.int (th), .ref fa, .int (n0), .ref ga, .int (ld), .int (sz), .ref ra, .int (rz), .ref ka, .ref wa, .int (ct)])), (ga, .inl (cB, 8192, .inl (g)))] [(cB, .byte)] ((fm_bI (decide (x = nI 256) || fm_thI (fm_RB g) x))) := by
  refine Met.ofW (cc := b_MO_mayAsk) (maxL := 2) (ret := (some .boolean)) (by decide) rfl ?_
  intro pg ev s m args below meth cd s₁ BD hml hv
  obtain ⟨rfl, hP, hK⟩ := hv
  have hx := BD.exec
  have hb := BD.bytes
  have hr := BD.returns
  have hts := atoms_spec (ws := w_MO_mayAsk) BD.pre
  have ht : ∀ w ∈ fm_T, w.before _ s = true := fun w h => hts w (List.mem_cons_of_mem _ h)
  have hown : s.vm.findClass R_MO = some m.cls := findClass_of_methodNamed BD.named
  have hlocks := BD.notSynchronized
  have S : CallFix pg m cd b_MO_mayAsk 2 s _ w_MO_mayAsk R_MO := ⟨hx, hb, hml, hown, hts⟩
  have hl := lv_entry ([.ref h, .int (x)]) (n := 2) (Nat.le_of_ble_eq_true rfl)
  rw [lg_entry_eq]
  generalize (lg_sl ([.ref h, .int (x)]) ++ List.replicate (2 - (lg_sl ([.ref h, .int (x)])).length) Slot.unset).toArray = ls at hl ⊢
  have hl : lv_has ls 2 [(0, .ref h), (1, .int (x))] := hl
  obtain ⟨-, hq, h3, h10⟩ := id hL
  refine lv_iload_n hx hb d_MO_mayAsk_0 rfl (lv_at hl 1 rfl) ?_
  refine lv_sipush (v := nI (256)) hx hb d_MO_mayAsk_1 (by decide) ?_
  refine lv_icmp_eq (tgt := 18) hx hb d_MO_mayAsk_4 (by decide) (fun c0 => ?_) (fun c0 => ?_)
  · have c_4 := c0
    refine lv_iconst (v := nI (1)) hx hb d_MO_mayAsk_18 (by decide) ?_
    refine lv_goto (tgt := 23) hx hb d_MO_mayAsk_19 (by decide) ?_
    exact W.zret (ty := .boolean) hx hb hr (rfl) (fun t ht hW => ⟨_, rfl, by first | exact fm_bI_1 (by rw [decide_eq_true c_4]; rfl) | exact fm_bI_1 (by rw [c_15, Bool.or_true]) | exact fm_bI_0 (by rw [decide_eq_false c_4, c_15]; rfl), ht⟩) (fun q hq => by cases hq) d_MO_mayAsk_23
  · have c_4 := c0
    refine lv_aload_n hx hb d_MO_mayAsk_7 rfl (lv_at hl 0 rfl) ?_
    refine va_get (D := (dC, dI)) (ci := 4) (v := .ref ga) (C := R_MO) (T := F_MO) (N := 11) hx hb ht i_MO hown hK hP 0 rfl rfl 3 (by decide) (ht _ q_3_116) (fun _ h9 => h9) rfl d_MO_mayAsk_8 ?_
    refine lv_iload_n hx hb d_MO_mayAsk_11 rfl (lv_at hl 1 rfl) ?_
    refine fm_cs S (c_MO_isThere l dC dI ga cB g x (hL)) rfl rfl k_MO_isThere q_3_194 ⟨Nat.le_of_ble_eq_true rfl, Nat.le_of_ble_eq_true rfl⟩ (hP.sub [1] rfl) (hK.sub [0] rfl) rfl hl.1 rfl (Nat.le_of_ble_eq_true rfl) ⟨Nat.zero_le _, Nat.zero_le _⟩ d_MO_mayAsk_12 ?_
    refine lv_if_eq (tgt := 22) hx hb d_MO_mayAsk_15 (by decide) (fun c0 => ?_) (fun c0 => ?_)
    · have c_15 : (fm_thI (fm_RB g) x) = false := fm_bI_f c0
      refine lv_iconst (v := nI (0)) hx hb d_MO_mayAsk_22 (by decide) ?_
      exact W.zret (ty := .boolean) hx hb hr (rfl) (fun t ht hW => ⟨_, rfl, by first | exact fm_bI_1 (by rw [decide_eq_true c_4]; rfl) | exact fm_bI_1 (by rw [c_15, Bool.or_true]) | exact fm_bI_0 (by rw [decide_eq_false c_4, c_15]; rfl), ht⟩) (fun q hq => by cases hq) d_MO_mayAsk_23
    · have c_15 : (fm_thI (fm_RB g) x) = true := fm_bI_t c0
      refine lv_iconst (v := nI (1)) hx hb d_MO_mayAsk_18 (by decide) ?_
      refine lv_goto (tgt := 23) hx hb d_MO_mayAsk_19 (by decide) ?_
      exact W.zret (ty := .boolean) hx hb hr (rfl) (fun t ht hW => ⟨_, rfl, by first | exact fm_bI_1 (by rw [decide_eq_true c_4]; rfl) | exact fm_bI_1 (by rw [c_15, Bool.or_true]) | exact fm_bI_0 (by rw [decide_eq_false c_4, c_15]; rfl), ht⟩) (fun q hq => by cases hq) d_MO_mayAsk_23
theorem d_MO_found_0 : decode b_MO_found 0 = .ok (.iload_n 1, 1) := by decide +kernel
theorem d_MO_found_1 : decode b_MO_found 1 = .ok (.sipush 256, 3) := by decide +kernel
theorem d_MO_found_4 : decode b_MO_found 4 = .ok (.if_icmp .ne 13, 3) := by decide +kernel
theorem d_MO_found_7 : decode b_MO_found 7 = .ok (.aload_n 0, 1) := by decide +kernel
theorem d_MO_found_8 : decode b_MO_found 8 = .ok (.getfield 13, 3) := by decide +kernel
theorem d_MO_found_11 : decode b_MO_found 11 = .ok (.invokestatic 121, 3) := by decide +kernel
theorem d_MO_found_14 : decode b_MO_found 14 = .ok (.goto 27, 3) := by decide +kernel
theorem d_MO_found_17 : decode b_MO_found 17 = .ok (.aload_n 0, 1) := by decide +kernel
theorem d_MO_found_18 : decode b_MO_found 18 = .ok (.getfield 13, 3) := by decide +kernel
theorem d_MO_found_21 : decode b_MO_found 21 = .ok (.iload_n 1, 1) := by decide +kernel
theorem d_MO_found_22 : decode b_MO_found 22 = .ok (.invokestatic 57, 3) := by decide +kernel
theorem d_MO_found_25 : decode b_MO_found 25 = .ok (.iconst 1, 1) := by decide +kernel
theorem d_MO_found_26 : decode b_MO_found 26 = .ok (.if_icmp .ne 14, 3) := by decide +kernel
theorem d_MO_found_29 : decode b_MO_found 29 = .ok (.aload_n 0, 1) := by decide +kernel
theorem d_MO_found_30 : decode b_MO_found 30 = .ok (.getfield 13, 3) := by decide +kernel
theorem d_MO_found_33 : decode b_MO_found 33 = .ok (.iload_n 1, 1) := by decide +kernel
theorem d_MO_found_34 : decode b_MO_found 34 = .ok (.invokestatic 50, 3) := by decide +kernel
theorem d_MO_found_37 : decode b_MO_found 37 = .ok (.goto 4, 3) := by decide +kernel
theorem d_MO_found_40 : decode b_MO_found 40 = .ok (.iconst (-1), 1) := by decide +kernel
theorem d_MO_found_41 : decode b_MO_found 41 = .ok (.istore_n 3, 1) := by decide +kernel
theorem d_MO_found_42 : decode b_MO_found 42 = .ok (.iload_n 2, 1) := by decide +kernel
theorem d_MO_found_43 : decode b_MO_found 43 = .ok (.sipush 256, 3) := by decide +kernel
theorem d_MO_found_46 : decode b_MO_found 46 = .ok (.if_icmp .ne 13, 3) := by decide +kernel
theorem d_MO_found_49 : decode b_MO_found 49 = .ok (.aload_n 0, 1) := by decide +kernel
theorem d_MO_found_50 : decode b_MO_found 50 = .ok (.getfield 13, 3) := by decide +kernel
theorem d_MO_found_53 : decode b_MO_found 53 = .ok (.invokestatic 67, 3) := by decide +kernel
theorem d_MO_found_56 : decode b_MO_found 56 = .ok (.goto 4, 3) := by decide +kernel
theorem d_MO_found_59 : decode b_MO_found 59 = .ok (.iload_n 2, 1) := by decide +kernel
theorem d_MO_found_60 : decode b_MO_found 60 = .ok (.istore 4, 2) := by decide +kernel
theorem d_MO_found_62 : decode b_MO_found 62 = .ok (.iload_n 3, 1) := by decide +kernel
theorem d_MO_found_63 : decode b_MO_found 63 = .ok (.ifCond .lt 8, 3) := by decide +kernel
theorem d_MO_found_66 : decode b_MO_found 66 = .ok (.iload 4, 2) := by decide +kernel
theorem d_MO_found_68 : decode b_MO_found 68 = .ok (.ifCond .ge 5, 3) := by decide +kernel
theorem d_MO_found_71 : decode b_MO_found 71 = .ok (.iconst (-1), 1) := by decide +kernel
theorem d_MO_found_72 : decode b_MO_found 72 = .ok (.ireturn, 1) := by decide +kernel
theorem d_MO_found_73 : decode b_MO_found 73 = .ok (.aload_n 0, 1) := by decide +kernel
theorem d_MO_found_74 : decode b_MO_found 74 = .ok (.getfield 13, 3) := by decide +kernel
theorem d_MO_found_77 : decode b_MO_found 77 = .ok (.bipush 6, 2) := by decide +kernel
theorem d_MO_found_79 : decode b_MO_found 79 = .ok (.iload_n 3, 1) := by decide +kernel
theorem d_MO_found_80 : decode b_MO_found 80 = .ok (.iconst 0, 1) := by decide +kernel
theorem d_MO_found_81 : decode b_MO_found 81 = .ok (.invokestatic 43, 3) := by decide +kernel
theorem d_MO_found_84 : decode b_MO_found 84 = .ok (.sipush 128, 3) := by decide +kernel
theorem d_MO_found_87 : decode b_MO_found 87 = .ok (.if_icmp .le 14, 3) := by decide +kernel
theorem d_MO_found_90 : decode b_MO_found 90 = .ok (.aload_n 0, 1) := by decide +kernel
theorem d_MO_found_91 : decode b_MO_found 91 = .ok (.getfield 13, 3) := by decide +kernel
theorem d_MO_found_94 : decode b_MO_found 94 = .ok (.iload_n 3, 1) := by decide +kernel
theorem d_MO_found_95 : decode b_MO_found 95 = .ok (.invokestatic 47, 3) := by decide +kernel
theorem d_MO_found_98 : decode b_MO_found 98 = .ok (.goto 4, 3) := by decide +kernel
theorem d_MO_found_101 : decode b_MO_found 101 = .ok (.iload_n 3, 1) := by decide +kernel
theorem d_MO_found_102 : decode b_MO_found 102 = .ok (.istore_n 3, 1) := by decide +kernel
theorem d_MO_found_103 : decode b_MO_found 103 = .ok (.aload_n 0, 1) := by decide +kernel
theorem d_MO_found_104 : decode b_MO_found 104 = .ok (.getfield 13, 3) := by decide +kernel
theorem d_MO_found_107 : decode b_MO_found 107 = .ok (.bipush 6, 2) := by decide +kernel
theorem d_MO_found_109 : decode b_MO_found 109 = .ok (.iload_n 3, 1) := by decide +kernel
theorem d_MO_found_110 : decode b_MO_found 110 = .ok (.iconst 0, 1) := by decide +kernel
theorem d_MO_found_111 : decode b_MO_found 111 = .ok (.invokestatic 43, 3) := by decide +kernel
theorem d_MO_found_114 : decode b_MO_found 114 = .ok (.sipush 128, 3) := by decide +kernel
theorem d_MO_found_117 : decode b_MO_found 117 = .ok (.if_icmp .gt 59, 3) := by decide +kernel
theorem d_MO_found_120 : decode b_MO_found 120 = .ok (.aload_n 0, 1) := by decide +kernel
theorem d_MO_found_121 : decode b_MO_found 121 = .ok (.getfield 13, 3) := by decide +kernel
theorem d_MO_found_124 : decode b_MO_found 124 = .ok (.bipush 6, 2) := by decide +kernel
theorem d_MO_found_126 : decode b_MO_found 126 = .ok (.iload_n 3, 1) := by decide +kernel
theorem d_MO_found_127 : decode b_MO_found 127 = .ok (.iconst 1, 1) := by decide +kernel
theorem d_MO_found_128 : decode b_MO_found 128 = .ok (.invokestatic 43, 3) := by decide +kernel
theorem d_MO_found_131 : decode b_MO_found 131 = .ok (.iload 4, 2) := by decide +kernel
theorem d_MO_found_133 : decode b_MO_found 133 = .ok (.if_icmp .ne 5, 3) := by decide +kernel
theorem d_MO_found_136 : decode b_MO_found 136 = .ok (.iload_n 3, 1) := by decide +kernel
theorem d_MO_found_137 : decode b_MO_found 137 = .ok (.ireturn, 1) := by decide +kernel
theorem d_MO_found_138 : decode b_MO_found 138 = .ok (.aload_n 0, 1) := by decide +kernel
theorem d_MO_found_139 : decode b_MO_found 139 = .ok (.getfield 13, 3) := by decide +kernel
theorem d_MO_found_142 : decode b_MO_found 142 = .ok (.bipush 6, 2) := by decide +kernel
theorem d_MO_found_144 : decode b_MO_found 144 = .ok (.iload_n 3, 1) := by decide +kernel
theorem d_MO_found_145 : decode b_MO_found 145 = .ok (.iconst 0, 1) := by decide +kernel
theorem d_MO_found_146 : decode b_MO_found 146 = .ok (.invokestatic 43, 3) := by decide +kernel
theorem d_MO_found_149 : decode b_MO_found 149 = .ok (.sipush 128, 3) := by decide +kernel
theorem d_MO_found_152 : decode b_MO_found 152 = .ok (.if_icmp .ne 5, 3) := by decide +kernel
theorem d_MO_found_155 : decode b_MO_found 155 = .ok (.iconst (-1), 1) := by decide +kernel
theorem d_MO_found_156 : decode b_MO_found 156 = .ok (.ireturn, 1) := by decide +kernel
theorem d_MO_found_157 : decode b_MO_found 157 = .ok (.iload_n 3, 1) := by decide +kernel
theorem d_MO_found_158 : decode b_MO_found 158 = .ok (.aload_n 0, 1) := by decide +kernel
theorem d_MO_found_159 : decode b_MO_found 159 = .ok (.getfield 13, 3) := by decide +kernel
theorem d_MO_found_162 : decode b_MO_found 162 = .ok (.bipush 6, 2) := by decide +kernel
theorem d_MO_found_164 : decode b_MO_found 164 = .ok (.iload_n 3, 1) := by decide +kernel
theorem d_MO_found_165 : decode b_MO_found 165 = .ok (.iconst 0, 1) := by decide +kernel
theorem d_MO_found_166 : decode b_MO_found 166 = .ok (.invokestatic 43, 3) := by decide +kernel
theorem d_MO_found_169 : decode b_MO_found 169 = .ok (.iadd, 1) := by decide +kernel
theorem d_MO_found_170 : decode b_MO_found 170 = .ok (.iconst 1, 1) := by decide +kernel
theorem d_MO_found_171 : decode b_MO_found 171 = .ok (.iadd, 1) := by decide +kernel
theorem d_MO_found_172 : decode b_MO_found 172 = .ok (.istore_n 3, 1) := by decide +kernel
theorem d_MO_found_173 : decode b_MO_found 173 = .ok (.goto (-70), 3) := by decide +kernel
theorem d_MO_found_176 : decode b_MO_found 176 = .ok (.iconst (-1), 1) := by decide +kernel
theorem d_MO_found_177 : decode b_MO_found 177 = .ok (.ireturn, 1) := by decide +kernel
set_option maxHeartbeats 4000000 in
set_option maxRecDepth 100000 in
theorem c_MO_found (l : Launch) (dC : Nat → ClassId) (dI : Nat → Nat → Nat) (h : Nat) (th : Int32) (fa : Nat) (n0 : Int32) (ga : Nat) (ld : Int32) (sz : Int32) (ra : Nat) (rz : Int32) (ka : Nat) (wa : Nat) (ct : Int32) (cB : ClassId) (g : Nat → Int32) (x : Nat) (r : Nat) (hV : fm_V (fm_RB g)) (hxx : x = 256 ∨ fm_th (fm_RB g) x = true) (hrr : r ≤ 256) : fm_M l (dC, dI) y_MO_found w_MO_found ({ frames := 6, cells := 0, slots := 0, locals := 130 }) [.ref h, .int (nI (x)), .int (nI (r))] [(h, .inr (4, [.int (th), .ref fa, .int (n0), .ref ga, .int (ld), .int (sz), .ref ra, .int (rz), .ref ka, .ref wa, .int (ct)])), (ga, .inl (cB, 8192, .inl (g)))] [(cB, .byte)] ((fm_oI (fm_fd (fm_RB g) x r))) := by
  refine Met.ofW (cc := b_MO_found) (maxL := 5) (ret := (some .int)) (by decide) rfl ?_
  intro pg ev s m args below meth cd s₁ BD hml hv
  obtain ⟨rfl, hP, hK⟩ := hv
  have hx := BD.exec
  have hb := BD.bytes
  have hr := BD.returns
  have hts := atoms_spec (ws := w_MO_found) BD.pre
  have ht : ∀ w ∈ fm_T, w.before _ s = true := fun w h => hts w (List.mem_cons_of_mem _ h)
  have hown : s.vm.findClass R_MO = some m.cls := findClass_of_methodNamed BD.named
  have hlocks := BD.notSynchronized
  have S : CallFix pg m cd b_MO_found 5 s _ w_MO_found R_MO := ⟨hx, hb, hml, hown, hts⟩
  have hl := lv_entry ([.ref h, .int (nI (x)), .int (nI (r))]) (n := 5) (Nat.le_of_ble_eq_true rfl)
  rw [lg_entry_eq]
  generalize (lg_sl ([.ref h, .int (nI (x)), .int (nI (r))]) ++ List.replicate (5 - (lg_sl ([.ref h, .int (nI (x)), .int (nI (r))])).length) Slot.unset).toArray = ls at hl ⊢
  have hl : lv_has ls 5 [(0, .ref h), (1, .int (nI (x))), (2, .int (nI (r)))] := hl
  have hL := hV.1
  obtain ⟨-, hq, h3, h10⟩ := id hL
  have hx256 : x ≤ 256 := by
    rcases hxx with e | e
    · omega
    · have e2 := fm_th_in e
      omega
  refine fm_join (nL := 5) (q := 62) (LV := [(0, .ref h), (3, .int (fm_oI (fm_so (fm_RB g) x))), (4, .int (fm_oI (fm_no (fm_RB g) r)))]) ?_ ?_
  · intro ls hl
    have hl : lv_has ls 5 [(0, .ref h), (3, .int (fm_oI (fm_so (fm_RB g) x))), (4, .int (fm_oI (fm_no (fm_RB g) r)))] := hl
    refine lv_iload_n hx hb d_MO_found_62 rfl (lv_at hl 1 rfl) ?_
    refine lv_if_lt (tgt := 71) hx hb d_MO_found_63 (by decide) (fun c0 => ?_) (fun c0 => ?_)
    · have c_63 := c0
      have hno := fm_oI_lt (fm_so_lt (fm_RB_lt g) (by omega)) c_63
      refine lv_iconst (v := ((-1))) hx hb d_MO_found_71 (by decide) ?_
      exact W.iret hx hb hr (fun t ht hW => ⟨_, rfl, by first | (rw [fm_fd, hno]; rfl) | (rw [fm_fd, hk, hno2]; rfl), ht⟩) (fun q hq => by cases hq) d_MO_found_72
    · have c_63 := c0
      obtain ⟨k, hk⟩ := fm_oI_ge c_63
      have hkw := fm_V_so hV hxx hk
      have hin := fm_pin hL (by decide : 6 < 10) hkw
      have hl : lv_has ls 5 [(0, .ref h), (3, .int (nI (k))), (4, .int (fm_oI (fm_no (fm_RB g) r)))] := by rw [show ((fm_oI (fm_so (fm_RB g) x)) : Int32) = nI (k) from by rw [hk]; rfl] at hl; exact hl
      refine lv_iload hx hb d_MO_found_66 (lv_at hl 2 rfl) ?_
      refine lv_if_ge (tgt := 73) hx hb d_MO_found_68 (by decide) (fun c0 => ?_) (fun c0 => ?_)
      · have c_68 := c0
        obtain ⟨nx, hnx⟩ := fm_oI_ge (Int32.not_lt.mpr c_68)
        have hnx2 := fm_no_lt (fm_RB_lt g) hrr hnx
        have hl : lv_has ls 5 [(0, .ref h), (3, .int (nI (k))), (4, .int (nI (nx)))] := by rw [show ((fm_oI (fm_no (fm_RB g) r)) : Int32) = nI (nx) from by rw [hnx]; rfl] at hl; exact hl
        refine lv_aload_n hx hb d_MO_found_73 rfl (lv_at hl 0 rfl) ?_
        refine va_get (D := (dC, dI)) (ci := 4) (v := .ref ga) (C := R_MO) (T := F_MO) (N := 11) hx hb ht i_MO hown hK hP 0 rfl rfl 3 (by decide) (ht _ q_3_116) (fun _ h9 => h9) rfl d_MO_found_74 ?_
        refine lv_bipush (v := nI (6)) hx hb d_MO_found_77 (by decide) ?_
        refine lv_iload_n hx hb d_MO_found_79 rfl (lv_at hl 1 rfl) ?_
        refine lv_iconst (v := nI (0)) hx hb d_MO_found_80 (by decide) ?_
        refine fm_cs S (c_MO_at l dC dI ga cB g 6 k 0 (by omega) (hq) (by omega) (by omega)) rfl rfl k_MO_at q_3_184 ⟨Nat.le_of_ble_eq_true rfl, Nat.le_of_ble_eq_true rfl⟩ (hP.sub [1] rfl) (hK.sub [0] rfl) rfl hl.1 rfl (Nat.le_of_ble_eq_true rfl) ⟨Nat.zero_le _, Nat.zero_le _⟩ d_MO_found_81 ?_
        have f0_81 := fm_AT_lt (fm_RB_lt g) 6 k 0
        refine lv_sipush (v := nI (128)) hx hb d_MO_found_84 (by decide) ?_
        refine lv_icmp_le (tgt := 101) hx hb d_MO_found_87 (by decide) (fun c0 => ?_) (fun c0 => ?_)
        · have c_87 : fm_AT (fm_RB g) 6 k 0 ≤ 128 := (nI_leI (a := fm_AT (fm_RB g) 6 k 0) (b := 128) (by omega) (by omega)).mp c0
          refine lv_iload_n hx hb d_MO_found_101 rfl (lv_at hl 1 rfl) ?_
          refine fm_tw (z := nI (fm_at0 (fm_RB g) k)) (by first | (rw [fm_at0, if_pos (Nat.lt_of_not_le c_87)]; done) | (rw [fm_at0, if_neg (Nat.not_lt.mpr c_87)]; done)) ?_
          refine lv_istore_n (lv' := [(3, .int (nI (fm_at0 (fm_RB g) k))), (0, .ref h), (4, .int (nI (nx)))]) hx hb d_MO_found_102 rfl hl (by decide) rfl (fun ls hl => ?_)
          refine fm_loop1 (LV := fun (q : Nat) => [(0, .ref h), (3, .int (nI (q))), (4, .int (nI (nx)))]) (I := fun (q : Nat) => q < fm_WD (fm_RB g) 6 ∧ fm_seek (fm_RB g) nx (fm_WD (fm_RB g) 6 - q) q = fm_fd (fm_RB g) x r) (μ := fun (q : Nat) => fm_WD (fm_RB g) 6 - q) ?_ (fm_at0 (fm_RB g) k) (⟨fm_V_at0 hV hkw, by rw [fm_fd, hk, hnx]⟩) ls (lv_sub hl [1, 0, 2] rfl)
          intro q hI_103 ih_103 ls hl
          have hl : lv_has ls 5 [(0, .ref h), (3, .int (nI (q))), (4, .int (nI (nx)))] := hl
          obtain ⟨hqw, hsk⟩ := hI_103
          have hin2 := fm_pin hL (by decide : 6 < 10) hqw
          have hw6 := fm_WD_le (fm_RB_lt g) 6
          rw [fm_seek_s hV hqw] at hsk
          refine lv_aload_n hx hb d_MO_found_103 rfl (lv_at hl 0 rfl) ?_
          refine va_get (D := (dC, dI)) (ci := 4) (v := .ref ga) (C := R_MO) (T := F_MO) (N := 11) hx hb ht i_MO hown hK hP 0 rfl rfl 3 (by decide) (ht _ q_3_116) (fun _ h9 => h9) rfl d_MO_found_104 ?_
          refine lv_bipush (v := nI (6)) hx hb d_MO_found_107 (by decide) ?_
          refine lv_iload_n hx hb d_MO_found_109 rfl (lv_at hl 1 rfl) ?_
          refine lv_iconst (v := nI (0)) hx hb d_MO_found_110 (by decide) ?_
          refine fm_cs S (c_MO_at l dC dI ga cB g 6 q 0 (by omega) (hq) (by omega) (by omega)) rfl rfl k_MO_at q_3_184 ⟨Nat.le_of_ble_eq_true rfl, Nat.le_of_ble_eq_true rfl⟩ (hP.sub [1] rfl) (hK.sub [0] rfl) rfl hl.1 rfl (Nat.le_of_ble_eq_true rfl) ⟨Nat.zero_le _, Nat.zero_le _⟩ d_MO_found_111 ?_
          have f0_111 := fm_AT_lt (fm_RB_lt g) 6 q 0
          refine lv_sipush (v := nI (128)) hx hb d_MO_found_114 (by decide) ?_
          refine lv_icmp_gt (tgt := 176) hx hb d_MO_found_117 (by decide) (fun c0 => ?_) (fun c0 => ?_)
          · have c_117 : 128 < fm_AT (fm_RB g) 6 q 0 := (nI_ltI (a := 128) (b := fm_AT (fm_RB g) 6 q 0) (by omega) (by omega)).mp c0
            refine lv_iconst (v := ((-1))) hx hb d_MO_found_176 (by decide) ?_
            exact W.iret hx hb hr (fun t ht hW => ⟨_, rfl, by rw [← hsk, if_pos (by omega)]; rfl, ht⟩) (fun q hq => by cases hq) d_MO_found_177
          · have c_117 : ¬ (128 < fm_AT (fm_RB g) 6 q 0) := fun z => c0 ((nI_ltI (a := 128) (b := fm_AT (fm_RB g) 6 q 0) (by omega) (by omega)).mpr z)
            refine lv_aload_n hx hb d_MO_found_120 rfl (lv_at hl 0 rfl) ?_
            refine va_get (D := (dC, dI)) (ci := 4) (v := .ref ga) (C := R_MO) (T := F_MO) (N := 11) hx hb ht i_MO hown hK hP 0 rfl rfl 3 (by decide) (ht _ q_3_116) (fun _ h9 => h9) rfl d_MO_found_121 ?_
            refine lv_bipush (v := nI (6)) hx hb d_MO_found_124 (by decide) ?_
            refine lv_iload_n hx hb d_MO_found_126 rfl (lv_at hl 1 rfl) ?_
            refine lv_iconst (v := nI (1)) hx hb d_MO_found_127 (by decide) ?_
            refine fm_cs S (c_MO_at l dC dI ga cB g 6 q 1 (by omega) (hq) (by omega) (by omega)) rfl rfl k_MO_at q_3_184 ⟨Nat.le_of_ble_eq_true rfl, Nat.le_of_ble_eq_true rfl⟩ (hP.sub [1] rfl) (hK.sub [0] rfl) rfl hl.1 rfl (Nat.le_of_ble_eq_true rfl) ⟨Nat.zero_le _, Nat.zero_le _⟩ d_MO_found_128 ?_
            have f0_128 := fm_AT_lt (fm_RB_lt g) 6 q 1
            refine lv_iload hx hb d_MO_found_131 (lv_at hl 2 rfl) ?_
            refine lv_icmp_ne (tgt := 138) hx hb d_MO_found_133 (by decide) (fun c0 => ?_) (fun c0 => ?_)
            · have c_133 : ¬ (fm_AT (fm_RB g) 6 q 1 = nx) := fun z => c0 ((nI_eq (a := fm_AT (fm_RB g) 6 q 1) (b := nx) (by omega) (by omega)).mpr z)
              refine lv_aload_n hx hb d_MO_found_138 rfl (lv_at hl 0 rfl) ?_
              refine va_get (D := (dC, dI)) (ci := 4) (v := .ref ga) (C := R_MO) (T := F_MO) (N := 11) hx hb ht i_MO hown hK hP 0 rfl rfl 3 (by decide) (ht _ q_3_116) (fun _ h9 => h9) rfl d_MO_found_139 ?_
              refine lv_bipush (v := nI (6)) hx hb d_MO_found_142 (by decide) ?_
              refine lv_iload_n hx hb d_MO_found_144 rfl (lv_at hl 1 rfl) ?_
              refine lv_iconst (v := nI (0)) hx hb d_MO_found_145 (by decide) ?_
              refine fm_cs S (c_MO_at l dC dI ga cB g 6 q 0 (by omega) (hq) (by omega) (by omega)) rfl rfl k_MO_at q_3_184 ⟨Nat.le_of_ble_eq_true rfl, Nat.le_of_ble_eq_true rfl⟩ (hP.sub [1] rfl) (hK.sub [0] rfl) rfl hl.1 rfl (Nat.le_of_ble_eq_true rfl) ⟨Nat.zero_le _, Nat.zero_le _⟩ d_MO_found_146 ?_
              have f0_146 := fm_AT_lt (fm_RB_lt g) 6 q 0
              refine lv_sipush (v := nI (128)) hx hb d_MO_found_149 (by decide) ?_
              refine lv_icmp_ne (tgt := 157) hx hb d_MO_found_152 (by decide) (fun c0 => ?_) (fun c0 => ?_)
              · have c_152 : ¬ (fm_AT (fm_RB g) 6 q 0 = 128) := fun z => c0 ((nI_eq (a := fm_AT (fm_RB g) 6 q 0) (b := 128) (by omega) (by omega)).mpr z)
                refine lv_iload_n hx hb d_MO_found_157 rfl (lv_at hl 1 rfl) ?_
                refine lv_aload_n hx hb d_MO_found_158 rfl (lv_at hl 0 rfl) ?_
                refine va_get (D := (dC, dI)) (ci := 4) (v := .ref ga) (C := R_MO) (T := F_MO) (N := 11) hx hb ht i_MO hown hK hP 0 rfl rfl 3 (by decide) (ht _ q_3_116) (fun _ h9 => h9) rfl d_MO_found_159 ?_
                refine lv_bipush (v := nI (6)) hx hb d_MO_found_162 (by decide) ?_
                refine lv_iload_n hx hb d_MO_found_164 rfl (lv_at hl 1 rfl) ?_
                refine lv_iconst (v := nI (0)) hx hb d_MO_found_165 (by decide) ?_
                refine fm_cs S (c_MO_at l dC dI ga cB g 6 q 0 (by omega) (hq) (by omega) (by omega)) rfl rfl k_MO_at q_3_184 ⟨Nat.le_of_ble_eq_true rfl, Nat.le_of_ble_eq_true rfl⟩ (hP.sub [1] rfl) (hK.sub [0] rfl) rfl hl.1 rfl (Nat.le_of_ble_eq_true rfl) ⟨Nat.zero_le _, Nat.zero_le _⟩ d_MO_found_166 ?_
                have f0_166 := fm_AT_lt (fm_RB_lt g) 6 q 0
                refine lv_iadd hx hb d_MO_found_169 ?_
                refine fm_tw (z := nI (q + fm_AT (fm_RB g) 6 q 0)) (nI_add _ _) ?_
                refine lv_iconst (v := nI (1)) hx hb d_MO_found_170 (by decide) ?_
                refine lv_iadd hx hb d_MO_found_171 ?_
                refine fm_tw (z := nI (q + fm_AT (fm_RB g) 6 q 0 + 1)) (nI_add _ _) ?_
                refine lv_istore_n (lv' := [(3, .int (nI (q + fm_AT (fm_RB g) 6 q 0 + 1))), (0, .ref h), (4, .int (nI (nx)))]) hx hb d_MO_found_172 rfl hl (by decide) rfl (fun ls hl => ?_)
                refine lv_goto (tgt := 103) hx hb d_MO_found_173 (by decide) ?_
                exact ih_103 (q + fm_AT (fm_RB g) 6 q 0 + 1) ls (⟨fm_V_next hV hqw (by omega), by rw [if_neg (by omega), if_neg c_133, if_neg c_152] at hsk; exact hsk⟩) (by omega) (lv_sub hl [1, 0, 2] rfl)
              · have c_152 : fm_AT (fm_RB g) 6 q 0 = 128 := (nI_eq (a := fm_AT (fm_RB g) 6 q 0) (b := 128) (by omega) (by omega)).mp c0
                refine lv_iconst (v := ((-1))) hx hb d_MO_found_155 (by decide) ?_
                exact W.iret hx hb hr (fun t ht hW => ⟨_, rfl, by rw [← hsk, if_neg (by omega), if_neg c_133, if_pos c_152]; rfl, ht⟩) (fun q hq => by cases hq) d_MO_found_156
            · have c_133 : fm_AT (fm_RB g) 6 q 1 = nx := (nI_eq (a := fm_AT (fm_RB g) 6 q 1) (b := nx) (by omega) (by omega)).mp c0
              refine lv_iload_n hx hb d_MO_found_136 rfl (lv_at hl 1 rfl) ?_
              exact W.iret hx hb hr (fun t ht hW => ⟨_, rfl, by rw [← hsk, if_neg (by omega), if_pos c_133]; rfl, ht⟩) (fun q hq => by cases hq) d_MO_found_137
        · have c_87 : ¬ (fm_AT (fm_RB g) 6 k 0 ≤ 128) := fun z => c0 ((nI_leI (a := fm_AT (fm_RB g) 6 k 0) (b := 128) (by omega) (by omega)).mpr z)
          refine lv_aload_n hx hb d_MO_found_90 rfl (lv_at hl 0 rfl) ?_
          refine va_get (D := (dC, dI)) (ci := 4) (v := .ref ga) (C := R_MO) (T := F_MO) (N := 11) hx hb ht i_MO hown hK hP 0 rfl rfl 3 (by decide) (ht _ q_3_116) (fun _ h9 => h9) rfl d_MO_found_91 ?_
          refine lv_iload_n hx hb d_MO_found_94 rfl (lv_at hl 1 rfl) ?_
          refine fm_cs S (c_MO_far l dC dI ga cB g k (hq) (by omega)) rfl rfl k_MO_far q_3_218 ⟨Nat.le_of_ble_eq_true rfl, Nat.le_of_ble_eq_true rfl⟩ (hP.sub [1] rfl) (hK.sub [0] rfl) rfl hl.1 rfl (Nat.le_of_ble_eq_true rfl) ⟨Nat.zero_le _, Nat.zero_le _⟩ d_MO_found_95 ?_
          have f0_95 := fm_FAR_lt (fm_RB_lt g) k
          refine lv_goto (tgt := 102) hx hb d_MO_found_98 (by decide) ?_
          refine fm_tw (z := nI (fm_at0 (fm_RB g) k)) (by first | (rw [fm_at0, if_pos (Nat.lt_of_not_le c_87)]; done) | (rw [fm_at0, if_neg (Nat.not_lt.mpr c_87)]; done)) ?_
          refine lv_istore_n (lv' := [(3, .int (nI (fm_at0 (fm_RB g) k))), (0, .ref h), (4, .int (nI (nx)))]) hx hb d_MO_found_102 rfl hl (by decide) rfl (fun ls hl => ?_)
          refine fm_loop1 (LV := fun (q : Nat) => [(0, .ref h), (3, .int (nI (q))), (4, .int (nI (nx)))]) (I := fun (q : Nat) => q < fm_WD (fm_RB g) 6 ∧ fm_seek (fm_RB g) nx (fm_WD (fm_RB g) 6 - q) q = fm_fd (fm_RB g) x r) (μ := fun (q : Nat) => fm_WD (fm_RB g) 6 - q) ?_ (fm_at0 (fm_RB g) k) (⟨fm_V_at0 hV hkw, by rw [fm_fd, hk, hnx]⟩) ls (lv_sub hl [1, 0, 2] rfl)
          intro q hI_103 ih_103 ls hl
          have hl : lv_has ls 5 [(0, .ref h), (3, .int (nI (q))), (4, .int (nI (nx)))] := hl
          obtain ⟨hqw, hsk⟩ := hI_103
          have hin2 := fm_pin hL (by decide : 6 < 10) hqw
          have hw6 := fm_WD_le (fm_RB_lt g) 6
          rw [fm_seek_s hV hqw] at hsk
          refine lv_aload_n hx hb d_MO_found_103 rfl (lv_at hl 0 rfl) ?_
          refine va_get (D := (dC, dI)) (ci := 4) (v := .ref ga) (C := R_MO) (T := F_MO) (N := 11) hx hb ht i_MO hown hK hP 0 rfl rfl 3 (by decide) (ht _ q_3_116) (fun _ h9 => h9) rfl d_MO_found_104 ?_
          refine lv_bipush (v := nI (6)) hx hb d_MO_found_107 (by decide) ?_
          refine lv_iload_n hx hb d_MO_found_109 rfl (lv_at hl 1 rfl) ?_
          refine lv_iconst (v := nI (0)) hx hb d_MO_found_110 (by decide) ?_
          refine fm_cs S (c_MO_at l dC dI ga cB g 6 q 0 (by omega) (hq) (by omega) (by omega)) rfl rfl k_MO_at q_3_184 ⟨Nat.le_of_ble_eq_true rfl, Nat.le_of_ble_eq_true rfl⟩ (hP.sub [1] rfl) (hK.sub [0] rfl) rfl hl.1 rfl (Nat.le_of_ble_eq_true rfl) ⟨Nat.zero_le _, Nat.zero_le _⟩ d_MO_found_111 ?_
          have f0_111 := fm_AT_lt (fm_RB_lt g) 6 q 0
          refine lv_sipush (v := nI (128)) hx hb d_MO_found_114 (by decide) ?_
          refine lv_icmp_gt (tgt := 176) hx hb d_MO_found_117 (by decide) (fun c0 => ?_) (fun c0 => ?_)
          · have c_117 : 128 < fm_AT (fm_RB g) 6 q 0 := (nI_ltI (a := 128) (b := fm_AT (fm_RB g) 6 q 0) (by omega) (by omega)).mp c0
            refine lv_iconst (v := ((-1))) hx hb d_MO_found_176 (by decide) ?_
            exact W.iret hx hb hr (fun t ht hW => ⟨_, rfl, by rw [← hsk, if_pos (by omega)]; rfl, ht⟩) (fun q hq => by cases hq) d_MO_found_177
          · have c_117 : ¬ (128 < fm_AT (fm_RB g) 6 q 0) := fun z => c0 ((nI_ltI (a := 128) (b := fm_AT (fm_RB g) 6 q 0) (by omega) (by omega)).mpr z)
            refine lv_aload_n hx hb d_MO_found_120 rfl (lv_at hl 0 rfl) ?_
            refine va_get (D := (dC, dI)) (ci := 4) (v := .ref ga) (C := R_MO) (T := F_MO) (N := 11) hx hb ht i_MO hown hK hP 0 rfl rfl 3 (by decide) (ht _ q_3_116) (fun _ h9 => h9) rfl d_MO_found_121 ?_
            refine lv_bipush (v := nI (6)) hx hb d_MO_found_124 (by decide) ?_
            refine lv_iload_n hx hb d_MO_found_126 rfl (lv_at hl 1 rfl) ?_
            refine lv_iconst (v := nI (1)) hx hb d_MO_found_127 (by decide) ?_
            refine fm_cs S (c_MO_at l dC dI ga cB g 6 q 1 (by omega) (hq) (by omega) (by omega)) rfl rfl k_MO_at q_3_184 ⟨Nat.le_of_ble_eq_true rfl, Nat.le_of_ble_eq_true rfl⟩ (hP.sub [1] rfl) (hK.sub [0] rfl) rfl hl.1 rfl (Nat.le_of_ble_eq_true rfl) ⟨Nat.zero_le _, Nat.zero_le _⟩ d_MO_found_128 ?_
            have f0_128 := fm_AT_lt (fm_RB_lt g) 6 q 1
            refine lv_iload hx hb d_MO_found_131 (lv_at hl 2 rfl) ?_
            refine lv_icmp_ne (tgt := 138) hx hb d_MO_found_133 (by decide) (fun c0 => ?_) (fun c0 => ?_)
            · have c_133 : ¬ (fm_AT (fm_RB g) 6 q 1 = nx) := fun z => c0 ((nI_eq (a := fm_AT (fm_RB g) 6 q 1) (b := nx) (by omega) (by omega)).mpr z)
              refine lv_aload_n hx hb d_MO_found_138 rfl (lv_at hl 0 rfl) ?_
              refine va_get (D := (dC, dI)) (ci := 4) (v := .ref ga) (C := R_MO) (T := F_MO) (N := 11) hx hb ht i_MO hown hK hP 0 rfl rfl 3 (by decide) (ht _ q_3_116) (fun _ h9 => h9) rfl d_MO_found_139 ?_
              refine lv_bipush (v := nI (6)) hx hb d_MO_found_142 (by decide) ?_
              refine lv_iload_n hx hb d_MO_found_144 rfl (lv_at hl 1 rfl) ?_
              refine lv_iconst (v := nI (0)) hx hb d_MO_found_145 (by decide) ?_
              refine fm_cs S (c_MO_at l dC dI ga cB g 6 q 0 (by omega) (hq) (by omega) (by omega)) rfl rfl k_MO_at q_3_184 ⟨Nat.le_of_ble_eq_true rfl, Nat.le_of_ble_eq_true rfl⟩ (hP.sub [1] rfl) (hK.sub [0] rfl) rfl hl.1 rfl (Nat.le_of_ble_eq_true rfl) ⟨Nat.zero_le _, Nat.zero_le _⟩ d_MO_found_146 ?_
              have f0_146 := fm_AT_lt (fm_RB_lt g) 6 q 0
              refine lv_sipush (v := nI (128)) hx hb d_MO_found_149 (by decide) ?_
              refine lv_icmp_ne (tgt := 157) hx hb d_MO_found_152 (by decide) (fun c0 => ?_) (fun c0 => ?_)
              · have c_152 : ¬ (fm_AT (fm_RB g) 6 q 0 = 128) := fun z => c0 ((nI_eq (a := fm_AT (fm_RB g) 6 q 0) (b := 128) (by omega) (by omega)).mpr z)
                refine lv_iload_n hx hb d_MO_found_157 rfl (lv_at hl 1 rfl) ?_
                refine lv_aload_n hx hb d_MO_found_158 rfl (lv_at hl 0 rfl) ?_
                refine va_get (D := (dC, dI)) (ci := 4) (v := .ref ga) (C := R_MO) (T := F_MO) (N := 11) hx hb ht i_MO hown hK hP 0 rfl rfl 3 (by decide) (ht _ q_3_116) (fun _ h9 => h9) rfl d_MO_found_159 ?_
                refine lv_bipush (v := nI (6)) hx hb d_MO_found_162 (by decide) ?_
                refine lv_iload_n hx hb d_MO_found_164 rfl (lv_at hl 1 rfl) ?_
                refine lv_iconst (v := nI (0)) hx hb d_MO_found_165 (by decide) ?_
                refine fm_cs S (c_MO_at l dC dI ga cB g 6 q 0 (by omega) (hq) (by omega) (by omega)) rfl rfl k_MO_at q_3_184 ⟨Nat.le_of_ble_eq_true rfl, Nat.le_of_ble_eq_true rfl⟩ (hP.sub [1] rfl) (hK.sub [0] rfl) rfl hl.1 rfl (Nat.le_of_ble_eq_true rfl) ⟨Nat.zero_le _, Nat.zero_le _⟩ d_MO_found_166 ?_
                have f0_166 := fm_AT_lt (fm_RB_lt g) 6 q 0
                refine lv_iadd hx hb d_MO_found_169 ?_
                refine fm_tw (z := nI (q + fm_AT (fm_RB g) 6 q 0)) (nI_add _ _) ?_
                refine lv_iconst (v := nI (1)) hx hb d_MO_found_170 (by decide) ?_
                refine lv_iadd hx hb d_MO_found_171 ?_
                refine fm_tw (z := nI (q + fm_AT (fm_RB g) 6 q 0 + 1)) (nI_add _ _) ?_
                refine lv_istore_n (lv' := [(3, .int (nI (q + fm_AT (fm_RB g) 6 q 0 + 1))), (0, .ref h), (4, .int (nI (nx)))]) hx hb d_MO_found_172 rfl hl (by decide) rfl (fun ls hl => ?_)
                refine lv_goto (tgt := 103) hx hb d_MO_found_173 (by decide) ?_
                exact ih_103 (q + fm_AT (fm_RB g) 6 q 0 + 1) ls (⟨fm_V_next hV hqw (by omega), by rw [if_neg (by omega), if_neg c_133, if_neg c_152] at hsk; exact hsk⟩) (by omega) (lv_sub hl [1, 0, 2] rfl)
              · have c_152 : fm_AT (fm_RB g) 6 q 0 = 128 := (nI_eq (a := fm_AT (fm_RB g) 6 q 0) (b := 128) (by omega) (by omega)).mp c0
                refine lv_iconst (v := ((-1))) hx hb d_MO_found_155 (by decide) ?_
                exact W.iret hx hb hr (fun t ht hW => ⟨_, rfl, by rw [← hsk, if_neg (by omega), if_neg c_133, if_pos c_152]; rfl, ht⟩) (fun q hq => by cases hq) d_MO_found_156
            · have c_133 : fm_AT (fm_RB g) 6 q 1 = nx := (nI_eq (a := fm_AT (fm_RB g) 6 q 1) (b := nx) (by omega) (by omega)).mp c0
              refine lv_iload_n hx hb d_MO_found_136 rfl (lv_at hl 1 rfl) ?_
              exact W.iret hx hb hr (fun t ht hW => ⟨_, rfl, by rw [← hsk, if_neg (by omega), if_pos c_133]; rfl, ht⟩) (fun q hq => by cases hq) d_MO_found_137
      · have c_68 := c0
        have hno2 := fm_oI_lt (fm_no_lt (fm_RB_lt g) hrr) (Int32.not_le.mp c_68)
        refine lv_iconst (v := ((-1))) hx hb d_MO_found_71 (by decide) ?_
        exact W.iret hx hb hr (fun t ht hW => ⟨_, rfl, by first | (rw [fm_fd, hno]; rfl) | (rw [fm_fd, hk, hno2]; rfl), ht⟩) (fun q hq => by cases hq) d_MO_found_72
  intro jn_62
  refine lv_iload_n hx hb d_MO_found_0 rfl (lv_at hl 1 rfl) ?_
  refine lv_sipush (v := nI (256)) hx hb d_MO_found_1 (by decide) ?_
  refine lv_icmp_ne (tgt := 17) hx hb d_MO_found_4 (by decide) (fun c0 => ?_) (fun c0 => ?_)
  · have c_4 : ¬ (x = 256) := fun z => c0 ((nI_eq (a := x) (b := 256) (by omega) (by omega)).mpr z)
    obtain ⟨hx1, hx2, -⟩ := fm_th_in (hxx.resolve_left c_4)
    refine lv_aload_n hx hb d_MO_found_17 rfl (lv_at hl 0 rfl) ?_
    refine va_get (D := (dC, dI)) (ci := 4) (v := .ref ga) (C := R_MO) (T := F_MO) (N := 11) hx hb ht i_MO hown hK hP 0 rfl rfl 3 (by decide) (ht _ q_3_116) (fun _ h9 => h9) rfl d_MO_found_18 ?_
    refine lv_iload_n hx hb d_MO_found_21 rfl (lv_at hl 1 rfl) ?_
    refine fm_cs S (c_MO_tag l dC dI ga cB g x (hL) (hx1) (hx2)) rfl rfl k_MO_tag q_3_197 ⟨Nat.le_of_ble_eq_true rfl, Nat.le_of_ble_eq_true rfl⟩ (hP.sub [1] rfl) (hK.sub [0] rfl) rfl hl.1 rfl (Nat.le_of_ble_eq_true rfl) ⟨Nat.zero_le _, Nat.zero_le _⟩ d_MO_found_22 ?_
    have f0_22 := fm_tag_lt (fm_RB g) x
    refine lv_iconst (v := nI (1)) hx hb d_MO_found_25 (by decide) ?_
    refine lv_icmp_ne (tgt := 40) hx hb d_MO_found_26 (by decide) (fun c0 => ?_) (fun c0 => ?_)
    · have c_26 : ¬ (fm_tag (fm_RB g) x = 1) := fun z => c0 ((nI_eq (a := fm_tag (fm_RB g) x) (b := 1) (by omega) (by omega)).mpr z)
      refine lv_iconst (v := ((-1))) hx hb d_MO_found_40 (by decide) ?_
      refine fm_tw (z := (fm_oI (fm_so (fm_RB g) x))) (by first | (rw [fm_so, if_pos c_4, fm_ep_o]; done) | (rw [fm_so, if_neg c_4, if_pos c_26]; rfl) | (rw [fm_so, if_neg c_4, if_neg c_26]; rfl)) ?_
      refine lv_istore_n (lv' := [(3, .int (fm_oI (fm_so (fm_RB g) x))), (0, .ref h), (1, .int (nI (x))), (2, .int (nI (r)))]) hx hb d_MO_found_41 rfl hl (by decide) rfl (fun ls hl => ?_)
      refine lv_iload_n hx hb d_MO_found_42 rfl (lv_at hl 3 rfl) ?_
      refine lv_sipush (v := nI (256)) hx hb d_MO_found_43 (by decide) ?_
      refine lv_icmp_ne (tgt := 59) hx hb d_MO_found_46 (by decide) (fun c0 => ?_) (fun c0 => ?_)
      · have c_46 : ¬ (r = 256) := fun z => c0 ((nI_eq (a := r) (b := 256) (by omega) (by omega)).mpr z)
        refine lv_iload_n hx hb d_MO_found_59 rfl (lv_at hl 3 rfl) ?_
        refine fm_tw (z := (fm_oI (fm_no (fm_RB g) r))) (by first | (rw [fm_no, if_pos c_46, fm_eg_o]; done) | (rw [fm_no, if_neg c_46]; rfl)) ?_
        refine lv_istore (lv' := [(4, .int (fm_oI (fm_no (fm_RB g) r))), (3, .int (fm_oI (fm_so (fm_RB g) x))), (0, .ref h), (1, .int (nI (x))), (2, .int (nI (r)))]) hx hb d_MO_found_60 hl (by decide) rfl (fun ls hl => ?_)
        exact jn_62 ls (lv_sub hl [2, 1, 0] rfl)
      · have c_46 : r = 256 := (nI_eq (a := r) (b := 256) (by omega) (by omega)).mp c0
        refine lv_aload_n hx hb d_MO_found_49 rfl (lv_at hl 1 rfl) ?_
        refine va_get (D := (dC, dI)) (ci := 4) (v := .ref ga) (C := R_MO) (T := F_MO) (N := 11) hx hb ht i_MO hown hK hP 0 rfl rfl 3 (by decide) (ht _ q_3_116) (fun _ h9 => h9) rfl d_MO_found_50 ?_
        refine fm_cs S (c_MO_edgeOf l dC dI ga cB g (hL)) rfl rfl k_MO_edgeOf q_3_221 ⟨Nat.le_of_ble_eq_true rfl, Nat.le_of_ble_eq_true rfl⟩ (hP.sub [1] rfl) (hK.sub [0] rfl) rfl hl.1 rfl (Nat.le_of_ble_eq_true rfl) ⟨Nat.zero_le _, Nat.zero_le _⟩ d_MO_found_53 ?_
        refine lv_goto (tgt := 60) hx hb d_MO_found_56 (by decide) ?_
        refine fm_tw (z := (fm_oI (fm_no (fm_RB g) r))) (by first | (rw [fm_no, if_pos c_46, fm_eg_o]; done) | (rw [fm_no, if_neg c_46]; rfl)) ?_
        refine lv_istore (lv' := [(4, .int (fm_oI (fm_no (fm_RB g) r))), (3, .int (fm_oI (fm_so (fm_RB g) x))), (0, .ref h), (1, .int (nI (x))), (2, .int (nI (r)))]) hx hb d_MO_found_60 hl (by decide) rfl (fun ls hl => ?_)
        exact jn_62 ls (lv_sub hl [2, 1, 0] rfl)
    · have c_26 : fm_tag (fm_RB g) x = 1 := (nI_eq (a := fm_tag (fm_RB g) x) (b := 1) (by omega) (by omega)).mp c0
      refine lv_aload_n hx hb d_MO_found_29 rfl (lv_at hl 0 rfl) ?_
      refine va_get (D := (dC, dI)) (ci := 4) (v := .ref ga) (C := R_MO) (T := F_MO) (N := 11) hx hb ht i_MO hown hK hP 0 rfl rfl 3 (by decide) (ht _ q_3_116) (fun _ h9 => h9) rfl d_MO_found_30 ?_
      refine lv_iload_n hx hb d_MO_found_33 rfl (lv_at hl 1 rfl) ?_
      refine fm_cs S (c_MO_rest l dC dI ga cB g x (hL) (hx1) (hx2)) rfl rfl k_MO_rest q_3_200 ⟨Nat.le_of_ble_eq_true rfl, Nat.le_of_ble_eq_true rfl⟩ (hP.sub [1] rfl) (hK.sub [0] rfl) rfl hl.1 rfl (Nat.le_of_ble_eq_true rfl) ⟨Nat.zero_le _, Nat.zero_le _⟩ d_MO_found_34 ?_
      have f0_34 := fm_rest_lt (fm_RB_lt g) x
      refine lv_goto (tgt := 41) hx hb d_MO_found_37 (by decide) ?_
      refine fm_tw (z := (fm_oI (fm_so (fm_RB g) x))) (by first | (rw [fm_so, if_pos c_4, fm_ep_o]; done) | (rw [fm_so, if_neg c_4, if_pos c_26]; rfl) | (rw [fm_so, if_neg c_4, if_neg c_26]; rfl)) ?_
      refine lv_istore_n (lv' := [(3, .int (fm_oI (fm_so (fm_RB g) x))), (0, .ref h), (1, .int (nI (x))), (2, .int (nI (r)))]) hx hb d_MO_found_41 rfl hl (by decide) rfl (fun ls hl => ?_)
      refine lv_iload_n hx hb d_MO_found_42 rfl (lv_at hl 3 rfl) ?_
      refine lv_sipush (v := nI (256)) hx hb d_MO_found_43 (by decide) ?_
      refine lv_icmp_ne (tgt := 59) hx hb d_MO_found_46 (by decide) (fun c0 => ?_) (fun c0 => ?_)
      · have c_46 : ¬ (r = 256) := fun z => c0 ((nI_eq (a := r) (b := 256) (by omega) (by omega)).mpr z)
        refine lv_iload_n hx hb d_MO_found_59 rfl (lv_at hl 3 rfl) ?_
        refine fm_tw (z := (fm_oI (fm_no (fm_RB g) r))) (by first | (rw [fm_no, if_pos c_46, fm_eg_o]; done) | (rw [fm_no, if_neg c_46]; rfl)) ?_
        refine lv_istore (lv' := [(4, .int (fm_oI (fm_no (fm_RB g) r))), (3, .int (fm_oI (fm_so (fm_RB g) x))), (0, .ref h), (1, .int (nI (x))), (2, .int (nI (r)))]) hx hb d_MO_found_60 hl (by decide) rfl (fun ls hl => ?_)
        exact jn_62 ls (lv_sub hl [2, 1, 0] rfl)
      · have c_46 : r = 256 := (nI_eq (a := r) (b := 256) (by omega) (by omega)).mp c0
        refine lv_aload_n hx hb d_MO_found_49 rfl (lv_at hl 1 rfl) ?_
        refine va_get (D := (dC, dI)) (ci := 4) (v := .ref ga) (C := R_MO) (T := F_MO) (N := 11) hx hb ht i_MO hown hK hP 0 rfl rfl 3 (by decide) (ht _ q_3_116) (fun _ h9 => h9) rfl d_MO_found_50 ?_
        refine fm_cs S (c_MO_edgeOf l dC dI ga cB g (hL)) rfl rfl k_MO_edgeOf q_3_221 ⟨Nat.le_of_ble_eq_true rfl, Nat.le_of_ble_eq_true rfl⟩ (hP.sub [1] rfl) (hK.sub [0] rfl) rfl hl.1 rfl (Nat.le_of_ble_eq_true rfl) ⟨Nat.zero_le _, Nat.zero_le _⟩ d_MO_found_53 ?_
        refine lv_goto (tgt := 60) hx hb d_MO_found_56 (by decide) ?_
        refine fm_tw (z := (fm_oI (fm_no (fm_RB g) r))) (by first | (rw [fm_no, if_pos c_46, fm_eg_o]; done) | (rw [fm_no, if_neg c_46]; rfl)) ?_
        refine lv_istore (lv' := [(4, .int (fm_oI (fm_no (fm_RB g) r))), (3, .int (fm_oI (fm_so (fm_RB g) x))), (0, .ref h), (1, .int (nI (x))), (2, .int (nI (r)))]) hx hb d_MO_found_60 hl (by decide) rfl (fun ls hl => ?_)
        exact jn_62 ls (lv_sub hl [2, 1, 0] rfl)
  · have c_4 : x = 256 := (nI_eq (a := x) (b := 256) (by omega) (by omega)).mp c0
    refine lv_aload_n hx hb d_MO_found_7 rfl (lv_at hl 0 rfl) ?_
    refine va_get (D := (dC, dI)) (ci := 4) (v := .ref ga) (C := R_MO) (T := F_MO) (N := 11) hx hb ht i_MO hown hK hP 0 rfl rfl 3 (by decide) (ht _ q_3_116) (fun _ h9 => h9) rfl d_MO_found_8 ?_
    refine fm_cs S (c_MO_edgeProgram l dC dI ga cB g (hL)) rfl rfl k_MO_edgeProgram q_3_231 ⟨Nat.le_of_ble_eq_true rfl, Nat.le_of_ble_eq_true rfl⟩ (hP.sub [1] rfl) (hK.sub [0] rfl) rfl hl.1 rfl (Nat.le_of_ble_eq_true rfl) ⟨Nat.zero_le _, Nat.zero_le _⟩ d_MO_found_11 ?_
    refine lv_goto (tgt := 41) hx hb d_MO_found_14 (by decide) ?_
    refine fm_tw (z := (fm_oI (fm_so (fm_RB g) x))) (by first | (rw [fm_so, if_pos c_4, fm_ep_o]; done) | (rw [fm_so, if_neg c_4, if_pos c_26]; rfl) | (rw [fm_so, if_neg c_4, if_neg c_26]; rfl)) ?_
    refine lv_istore_n (lv' := [(3, .int (fm_oI (fm_so (fm_RB g) x))), (0, .ref h), (1, .int (nI (x))), (2, .int (nI (r)))]) hx hb d_MO_found_41 rfl hl (by decide) rfl (fun ls hl => ?_)
    refine lv_iload_n hx hb d_MO_found_42 rfl (lv_at hl 3 rfl) ?_
    refine lv_sipush (v := nI (256)) hx hb d_MO_found_43 (by decide) ?_
    refine lv_icmp_ne (tgt := 59) hx hb d_MO_found_46 (by decide) (fun c0 => ?_) (fun c0 => ?_)
    · have c_46 : ¬ (r = 256) := fun z => c0 ((nI_eq (a := r) (b := 256) (by omega) (by omega)).mpr z)
      refine lv_iload_n hx hb d_MO_found_59 rfl (lv_at hl 3 rfl) ?_
      refine fm_tw (z := (fm_oI (fm_no (fm_RB g) r))) (by first | (rw [fm_no, if_pos c_46, fm_eg_o]; done) | (rw [fm_no, if_neg c_46]; rfl)) ?_
      refine lv_istore (lv' := [(4, .int (fm_oI (fm_no (fm_RB g) r))), (3, .int (fm_oI (fm_so (fm_RB g) x))), (0, .ref h), (1, .int (nI (x))), (2, .int (nI (r)))]) hx hb d_MO_found_60 hl (by decide) rfl (fun ls hl => ?_)
      exact jn_62 ls (lv_sub hl [2, 1, 0] rfl)
    · have c_46 : r = 256 := (nI_eq (a := r) (b := 256) (by omega) (by omega)).mp c0
      refine lv_aload_n hx hb d_MO_found_49 rfl (lv_at hl 1 rfl) ?_
      refine va_get (D := (dC, dI)) (ci := 4) (v := .ref ga) (C := R_MO) (T := F_MO) (N := 11) hx hb ht i_MO hown hK hP 0 rfl rfl 3 (by decide) (ht _ q_3_116) (fun _ h9 => h9) rfl d_MO_found_50 ?_
      refine fm_cs S (c_MO_edgeOf l dC dI ga cB g (hL)) rfl rfl k_MO_edgeOf q_3_221 ⟨Nat.le_of_ble_eq_true rfl, Nat.le_of_ble_eq_true rfl⟩ (hP.sub [1] rfl) (hK.sub [0] rfl) rfl hl.1 rfl (Nat.le_of_ble_eq_true rfl) ⟨Nat.zero_le _, Nat.zero_le _⟩ d_MO_found_53 ?_
      refine lv_goto (tgt := 60) hx hb d_MO_found_56 (by decide) ?_
      refine fm_tw (z := (fm_oI (fm_no (fm_RB g) r))) (by first | (rw [fm_no, if_pos c_46, fm_eg_o]; done) | (rw [fm_no, if_neg c_46]; rfl)) ?_
      refine lv_istore (lv' := [(4, .int (fm_oI (fm_no (fm_RB g) r))), (3, .int (fm_oI (fm_so (fm_RB g) x))), (0, .ref h), (1, .int (nI (x))), (2, .int (nI (r)))]) hx hb d_MO_found_60 hl (by decide) rfl (fun ls hl => ?_)
      exact jn_62 ls (lv_sub hl [2, 1, 0] rfl)
theorem d_MO_fault_0 : decode b_MO_fault 0 = .ok (.aload_n 0, 1) := by decide +kernel
theorem d_MO_fault_1 : decode b_MO_fault 1 = .ok (.getfield 7, 3) := by decide +kernel
theorem d_MO_fault_4 : decode b_MO_fault 4 = .ok (.astore_n 1, 1) := by decide +kernel
theorem d_MO_fault_5 : decode b_MO_fault 5 = .ok (.aload_n 0, 1) := by decide +kernel
theorem d_MO_fault_6 : decode b_MO_fault 6 = .ok (.invokevirtual 74, 3) := by decide +kernel
theorem d_MO_fault_9 : decode b_MO_fault 9 = .ok (.ifCond .ne 5, 3) := by decide +kernel
theorem d_MO_fault_12 : decode b_MO_fault 12 = .ok (.iconst 1, 1) := by decide +kernel
theorem d_MO_fault_13 : decode b_MO_fault 13 = .ok (.ireturn, 1) := by decide +kernel
theorem d_MO_fault_14 : decode b_MO_fault 14 = .ok (.aload_n 1, 1) := by decide +kernel
theorem d_MO_fault_15 : decode b_MO_fault 15 = .ok (.iconst 2, 1) := by decide +kernel
theorem d_MO_fault_16 : decode b_MO_fault 16 = .ok (.invokestatic 33, 3) := by decide +kernel
theorem d_MO_fault_19 : decode b_MO_fault 19 = .ok (.aload_n 1, 1) := by decide +kernel
theorem d_MO_fault_20 : decode b_MO_fault 20 = .ok (.iconst 3, 1) := by decide +kernel
theorem d_MO_fault_21 : decode b_MO_fault 21 = .ok (.invokestatic 33, 3) := by decide +kernel
theorem d_MO_fault_24 : decode b_MO_fault 24 = .ok (.iconst 1, 1) := by decide +kernel
theorem d_MO_fault_25 : decode b_MO_fault 25 = .ok (.iadd, 1) := by decide +kernel
theorem d_MO_fault_26 : decode b_MO_fault 26 = .ok (.if_icmp .gt 14, 3) := by decide +kernel
theorem d_MO_fault_29 : decode b_MO_fault 29 = .ok (.aload_n 1, 1) := by decide +kernel
theorem d_MO_fault_30 : decode b_MO_fault 30 = .ok (.iconst 3, 1) := by decide +kernel
theorem d_MO_fault_31 : decode b_MO_fault 31 = .ok (.invokestatic 33, 3) := by decide +kernel
theorem d_MO_fault_34 : decode b_MO_fault 34 = .ok (.sipush 255, 3) := by decide +kernel
theorem d_MO_fault_37 : decode b_MO_fault 37 = .ok (.if_icmp .le 5, 3) := by decide +kernel
theorem d_MO_fault_40 : decode b_MO_fault 40 = .ok (.iconst 2, 1) := by decide +kernel
theorem d_MO_fault_41 : decode b_MO_fault 41 = .ok (.ireturn, 1) := by decide +kernel
theorem d_MO_fault_42 : decode b_MO_fault 42 = .ok (.aload_n 1, 1) := by decide +kernel
theorem d_MO_fault_43 : decode b_MO_fault 43 = .ok (.iconst 0, 1) := by decide +kernel
theorem d_MO_fault_44 : decode b_MO_fault 44 = .ok (.invokestatic 37, 3) := by decide +kernel
theorem d_MO_fault_47 : decode b_MO_fault 47 = .ok (.iconst 2, 1) := by decide +kernel
theorem d_MO_fault_48 : decode b_MO_fault 48 = .ok (.if_icmp .lt 15, 3) := by decide +kernel
theorem d_MO_fault_51 : decode b_MO_fault 51 = .ok (.aload_n 1, 1) := by decide +kernel
theorem d_MO_fault_52 : decode b_MO_fault 52 = .ok (.bipush 8, 2) := by decide +kernel
theorem d_MO_fault_54 : decode b_MO_fault 54 = .ok (.invokestatic 37, 3) := by decide +kernel
theorem d_MO_fault_57 : decode b_MO_fault 57 = .ok (.sipush 256, 3) := by decide +kernel
theorem d_MO_fault_60 : decode b_MO_fault 60 = .ok (.if_icmp .le 7, 3) := by decide +kernel
theorem d_MO_fault_63 : decode b_MO_fault 63 = .ok (.iconst 1, 1) := by decide +kernel
theorem d_MO_fault_64 : decode b_MO_fault 64 = .ok (.goto 4, 3) := by decide +kernel
theorem d_MO_fault_67 : decode b_MO_fault 67 = .ok (.iconst 0, 1) := by decide +kernel
theorem d_MO_fault_68 : decode b_MO_fault 68 = .ok (.istore_n 2, 1) := by decide +kernel
theorem d_MO_fault_69 : decode b_MO_fault 69 = .ok (.iconst 2, 1) := by decide +kernel
theorem d_MO_fault_70 : decode b_MO_fault 70 = .ok (.istore_n 3, 1) := by decide +kernel
theorem d_MO_fault_71 : decode b_MO_fault 71 = .ok (.iload_n 3, 1) := by decide +kernel
theorem d_MO_fault_72 : decode b_MO_fault 72 = .ok (.bipush 6, 2) := by decide +kernel
theorem d_MO_fault_74 : decode b_MO_fault 74 = .ok (.if_icmp .ge 27, 3) := by decide +kernel
theorem d_MO_fault_77 : decode b_MO_fault 77 = .ok (.iload_n 2, 1) := by decide +kernel
theorem d_MO_fault_78 : decode b_MO_fault 78 = .ok (.ifCond .ne 11, 3) := by decide +kernel
theorem d_MO_fault_81 : decode b_MO_fault 81 = .ok (.aload_n 1, 1) := by decide +kernel
theorem d_MO_fault_82 : decode b_MO_fault 82 = .ok (.iload_n 3, 1) := by decide +kernel
theorem d_MO_fault_83 : decode b_MO_fault 83 = .ok (.invokestatic 37, 3) := by decide +kernel
theorem d_MO_fault_86 : decode b_MO_fault 86 = .ok (.ifCond .ne 7, 3) := by decide +kernel
theorem d_MO_fault_89 : decode b_MO_fault 89 = .ok (.iconst 1, 1) := by decide +kernel
theorem d_MO_fault_90 : decode b_MO_fault 90 = .ok (.goto 4, 3) := by decide +kernel
theorem d_MO_fault_93 : decode b_MO_fault 93 = .ok (.iconst 0, 1) := by decide +kernel
theorem d_MO_fault_94 : decode b_MO_fault 94 = .ok (.istore_n 2, 1) := by decide +kernel
theorem d_MO_fault_95 : decode b_MO_fault 95 = .ok (.iinc 3 1, 3) := by decide +kernel
theorem d_MO_fault_98 : decode b_MO_fault 98 = .ok (.goto (-27), 3) := by decide +kernel
theorem d_MO_fault_101 : decode b_MO_fault 101 = .ok (.iload_n 2, 1) := by decide +kernel
theorem d_MO_fault_102 : decode b_MO_fault 102 = .ok (.ifCond .eq 5, 3) := by decide +kernel
theorem d_MO_fault_105 : decode b_MO_fault 105 = .ok (.iconst 3, 1) := by decide +kernel
theorem d_MO_fault_106 : decode b_MO_fault 106 = .ok (.ireturn, 1) := by decide +kernel
theorem d_MO_fault_107 : decode b_MO_fault 107 = .ok (.aload_n 1, 1) := by decide +kernel
theorem d_MO_fault_108 : decode b_MO_fault 108 = .ok (.iconst 0, 1) := by decide +kernel
theorem d_MO_fault_109 : decode b_MO_fault 109 = .ok (.invokestatic 33, 3) := by decide +kernel
theorem d_MO_fault_112 : decode b_MO_fault 112 = .ok (.aload_n 1, 1) := by decide +kernel
theorem d_MO_fault_113 : decode b_MO_fault 113 = .ok (.bipush 10, 2) := by decide +kernel
theorem d_MO_fault_115 : decode b_MO_fault 115 = .ok (.invokestatic 40, 3) := by decide +kernel
theorem d_MO_fault_118 : decode b_MO_fault 118 = .ok (.if_icmp .ne 17, 3) := by decide +kernel
theorem d_MO_fault_121 : decode b_MO_fault 121 = .ok (.aload_n 0, 1) := by decide +kernel
theorem d_MO_fault_122 : decode b_MO_fault 122 = .ok (.getfield 30, 3) := by decide +kernel
theorem d_MO_fault_125 : decode b_MO_fault 125 = .ok (.iconst 4, 1) := by decide +kernel
theorem d_MO_fault_126 : decode b_MO_fault 126 = .ok (.aload_n 1, 1) := by decide +kernel
theorem d_MO_fault_127 : decode b_MO_fault 127 = .ok (.iconst 0, 1) := by decide +kernel
theorem d_MO_fault_128 : decode b_MO_fault 128 = .ok (.invokestatic 33, 3) := by decide +kernel
theorem d_MO_fault_131 : decode b_MO_fault 131 = .ok (.imul, 1) := by decide +kernel
theorem d_MO_fault_132 : decode b_MO_fault 132 = .ok (.if_icmp .eq 5, 3) := by decide +kernel
theorem d_MO_fault_135 : decode b_MO_fault 135 = .ok (.iconst 4, 1) := by decide +kernel
theorem d_MO_fault_136 : decode b_MO_fault 136 = .ok (.ireturn, 1) := by decide +kernel
theorem d_MO_fault_137 : decode b_MO_fault 137 = .ok (.aload_n 1, 1) := by decide +kernel
theorem d_MO_fault_138 : decode b_MO_fault 138 = .ok (.invokestatic 78, 3) := by decide +kernel
theorem d_MO_fault_141 : decode b_MO_fault 141 = .ok (.ldc 81, 2) := by decide +kernel
theorem d_MO_fault_143 : decode b_MO_fault 143 = .ok (.if_icmp .ge 5, 3) := by decide +kernel
theorem d_MO_fault_146 : decode b_MO_fault 146 = .ok (.iconst 5, 1) := by decide +kernel
theorem d_MO_fault_147 : decode b_MO_fault 147 = .ok (.ireturn, 1) := by decide +kernel
theorem d_MO_fault_148 : decode b_MO_fault 148 = .ok (.aload_n 1, 1) := by decide +kernel
theorem d_MO_fault_149 : decode b_MO_fault 149 = .ok (.invokestatic 82, 3) := by decide +kernel
theorem d_MO_fault_152 : decode b_MO_fault 152 = .ok (.ifCond .ne 6, 3) := by decide +kernel
theorem d_MO_fault_155 : decode b_MO_fault 155 = .ok (.bipush 6, 2) := by decide +kernel
theorem d_MO_fault_157 : decode b_MO_fault 157 = .ok (.ireturn, 1) := by decide +kernel
theorem d_MO_fault_158 : decode b_MO_fault 158 = .ok (.aload_n 1, 1) := by decide +kernel
theorem d_MO_fault_159 : decode b_MO_fault 159 = .ok (.invokestatic 86, 3) := by decide +kernel
theorem d_MO_fault_162 : decode b_MO_fault 162 = .ok (.ifCond .ne 6, 3) := by decide +kernel
theorem d_MO_fault_165 : decode b_MO_fault 165 = .ok (.bipush 7, 2) := by decide +kernel
theorem d_MO_fault_167 : decode b_MO_fault 167 = .ok (.ireturn, 1) := by decide +kernel
theorem d_MO_fault_168 : decode b_MO_fault 168 = .ok (.aload_n 1, 1) := by decide +kernel
theorem d_MO_fault_169 : decode b_MO_fault 169 = .ok (.invokestatic 89, 3) := by decide +kernel
theorem d_MO_fault_172 : decode b_MO_fault 172 = .ok (.ifCond .ne 6, 3) := by decide +kernel
theorem d_MO_fault_175 : decode b_MO_fault 175 = .ok (.bipush 8, 2) := by decide +kernel
theorem d_MO_fault_177 : decode b_MO_fault 177 = .ok (.ireturn, 1) := by decide +kernel
theorem d_MO_fault_178 : decode b_MO_fault 178 = .ok (.aload_n 1, 1) := by decide +kernel
theorem d_MO_fault_179 : decode b_MO_fault 179 = .ok (.invokestatic 92, 3) := by decide +kernel
theorem d_MO_fault_182 : decode b_MO_fault 182 = .ok (.ifCond .ne 6, 3) := by decide +kernel
theorem d_MO_fault_185 : decode b_MO_fault 185 = .ok (.bipush 9, 2) := by decide +kernel
theorem d_MO_fault_187 : decode b_MO_fault 187 = .ok (.ireturn, 1) := by decide +kernel
theorem d_MO_fault_188 : decode b_MO_fault 188 = .ok (.aload_n 1, 1) := by decide +kernel
theorem d_MO_fault_189 : decode b_MO_fault 189 = .ok (.invokestatic 95, 3) := by decide +kernel
theorem d_MO_fault_192 : decode b_MO_fault 192 = .ok (.ifCond .ne 8, 3) := by decide +kernel
theorem d_MO_fault_195 : decode b_MO_fault 195 = .ok (.bipush 10, 2) := by decide +kernel
theorem d_MO_fault_197 : decode b_MO_fault 197 = .ok (.goto 19, 3) := by decide +kernel
theorem d_MO_fault_200 : decode b_MO_fault 200 = .ok (.aload_n 1, 1) := by decide +kernel
theorem d_MO_fault_201 : decode b_MO_fault 201 = .ok (.bipush 9, 2) := by decide +kernel
theorem d_MO_fault_203 : decode b_MO_fault 203 = .ok (.iconst 1, 1) := by decide +kernel
theorem d_MO_fault_204 : decode b_MO_fault 204 = .ok (.invokestatic 63, 3) := by decide +kernel
theorem d_MO_fault_207 : decode b_MO_fault 207 = .ok (.ifCond .eq 7, 3) := by decide +kernel
theorem d_MO_fault_210 : decode b_MO_fault 210 = .ok (.iconst 0, 1) := by decide +kernel
theorem d_MO_fault_211 : decode b_MO_fault 211 = .ok (.goto 5, 3) := by decide +kernel
theorem d_MO_fault_214 : decode b_MO_fault 214 = .ok (.bipush 11, 2) := by decide +kernel
theorem d_MO_fault_216 : decode b_MO_fault 216 = .ok (.ireturn, 1) := by decide +kernel
set_option maxHeartbeats 4000000 in
set_option maxRecDepth 100000 in
theorem c_MO_fault (l : Launch) (dC : Nat → ClassId) (dI : Nat → Nat → Nat) (h : Nat) (th : Int32) (fa : Nat) (n : Nat) (ga : Nat) (ld : Int32) (sz : Int32) (ra : Nat) (rz : Int32) (ka : Nat) (wa : Nat) (ct : Int32) (cB : ClassId) (f : Nat → Int32) (hn : n ≤ 8192) : fm_M l (dC, dI) y_MO_fault w_MO_fault ({ frames := 7, cells := 0, slots := 0, locals := 157 }) [.ref h] [(h, .inr (4, [.int (th), .ref fa, .int (nI (n)), .ref ga, .int (ld), .int (sz), .ref ra, .int (rz), .ref ka, .ref wa, .int (ct)])), (fa, .inl (cB, 8192, .inl (f)))] [(cB, .byte)] (nI (fm_fault (fm_RB f) n)) := by
  refine Met.ofW (cc := b_MO_fault) (maxL := 4) (ret := (some .int)) (by decide) rfl ?_
  intro pg ev s m args below meth cd s₁ BD hml hv
  obtain ⟨rfl, hP, hK⟩ := hv
  have hx := BD.exec
  have hb := BD.bytes
  have hr := BD.returns
  have hts := atoms_spec (ws := w_MO_fault) BD.pre
  have ht : ∀ w ∈ fm_T, w.before _ s = true := fun w h => hts w (List.mem_cons_of_mem _ h)
  have hown : s.vm.findClass R_MO = some m.cls := findClass_of_methodNamed BD.named
  have hlocks := BD.notSynchronized
  have S : CallFix pg m cd b_MO_fault 4 s _ w_MO_fault R_MO := ⟨hx, hb, hml, hown, hts⟩
  have hl := lv_entry ([.ref h]) (n := 4) (Nat.le_of_ble_eq_true rfl)
  rw [lg_entry_eq]
  generalize (lg_sl ([.ref h]) ++ List.replicate (4 - (lg_sl ([.ref h])).length) Slot.unset).toArray = ls at hl ⊢
  have hl : lv_has ls 4 [(0, .ref h)] := hl
  refine lv_aload_n hx hb d_MO_fault_0 rfl (lv_at hl 0 rfl) ?_
  refine va_get (D := (dC, dI)) (ci := 4) (v := .ref fa) (C := R_MO) (T := F_MO) (N := 11) hx hb ht i_MO hown hK hP 0 rfl rfl 1 (by decide) (ht _ q_3_114) (fun _ h9 => h9) rfl d_MO_fault_1 ?_
  refine lv_astore_n (lv' := [(1, .ref fa), (0, .ref h)]) hx hb d_MO_fault_4 rfl hl (by decide) rfl (fun ls hl => ?_)
  refine lv_aload_n hx hb d_MO_fault_5 rfl (lv_at hl 1 rfl) ?_
  refine fm_cv S (c_MO_areNumbersSmall l dC dI h th fa n ga ld sz ra rz ka wa ct cB f (by omega)) rfl rfl k_MO_areNumbersSmall q_3_168 ⟨Nat.le_of_ble_eq_true rfl, Nat.le_of_ble_eq_true rfl⟩ (hP.sub [0, 1] rfl) (hK.sub [0] rfl) 0 rfl rfl rfl hl.1 rfl (Nat.le_of_ble_eq_true rfl) ⟨Nat.zero_le _, Nat.zero_le _⟩ d_MO_fault_6 ?_
  refine lv_if_ne (tgt := 14) hx hb d_MO_fault_9 (by decide) (fun c0 => ?_) (fun c0 => ?_)
  · have c_9 : (fm_small (fm_RB f) n) = true := fm_bI_t c0
    refine lv_aload_n hx hb d_MO_fault_14 rfl (lv_at hl 0 rfl) ?_
    refine lv_iconst (v := nI (2)) hx hb d_MO_fault_15 (by decide) ?_
    refine fm_cs S (c_MO_half l dC dI fa cB f 2 (by omega)) rfl rfl k_MO_half q_3_172 ⟨Nat.le_of_ble_eq_true rfl, Nat.le_of_ble_eq_true rfl⟩ (hP.sub [1] rfl) (hK.sub [0] rfl) rfl hl.1 rfl (Nat.le_of_ble_eq_true rfl) ⟨Nat.zero_le _, Nat.zero_le _⟩ d_MO_fault_16 ?_
    have f0_16 := fm_HF_lt (fm_RB_lt f) 2
    refine lv_aload_n hx hb d_MO_fault_19 rfl (lv_at hl 0 rfl) ?_
    refine lv_iconst (v := nI (3)) hx hb d_MO_fault_20 (by decide) ?_
    refine fm_cs S (c_MO_half l dC dI fa cB f 3 (by omega)) rfl rfl k_MO_half q_3_172 ⟨Nat.le_of_ble_eq_true rfl, Nat.le_of_ble_eq_true rfl⟩ (hP.sub [1] rfl) (hK.sub [0] rfl) rfl hl.1 rfl (Nat.le_of_ble_eq_true rfl) ⟨Nat.zero_le _, Nat.zero_le _⟩ d_MO_fault_21 ?_
    have f0_21 := fm_HF_lt (fm_RB_lt f) 3
    refine lv_iconst (v := nI (1)) hx hb d_MO_fault_24 (by decide) ?_
    refine lv_iadd hx hb d_MO_fault_25 ?_
    refine fm_tw (z := nI (fm_HF (fm_RB f) 3 + 1)) (nI_add _ _) ?_
    refine lv_icmp_gt (tgt := 40) hx hb d_MO_fault_26 (by decide) (fun c0 => ?_) (fun c0 => ?_)
    · have c_26 : fm_HF (fm_RB f) 3 + 1 < fm_HF (fm_RB f) 2 := (nI_ltI (a := fm_HF (fm_RB f) 3 + 1) (b := fm_HF (fm_RB f) 2) (by omega) (by omega)).mp c0
      refine lv_iconst (v := nI (2)) hx hb d_MO_fault_40 (by decide) ?_
      exact W.iret hx hb hr (fun t ht hW => ⟨_, rfl, by rw [fm_fault, if_neg (by rw [c_9]; decide), if_pos (by omega)], ht⟩) (fun q hq => by cases hq) d_MO_fault_41
    · have c_26 : ¬ (fm_HF (fm_RB f) 3 + 1 < fm_HF (fm_RB f) 2) := fun z => c0 ((nI_ltI (a := fm_HF (fm_RB f) 3 + 1) (b := fm_HF (fm_RB f) 2) (by omega) (by omega)).mpr z)
      refine lv_aload_n hx hb d_MO_fault_29 rfl (lv_at hl 0 rfl) ?_
      refine lv_iconst (v := nI (3)) hx hb d_MO_fault_30 (by decide) ?_
      refine fm_cs S (c_MO_half l dC dI fa cB f 3 (by omega)) rfl rfl k_MO_half q_3_172 ⟨Nat.le_of_ble_eq_true rfl, Nat.le_of_ble_eq_true rfl⟩ (hP.sub [1] rfl) (hK.sub [0] rfl) rfl hl.1 rfl (Nat.le_of_ble_eq_true rfl) ⟨Nat.zero_le _, Nat.zero_le _⟩ d_MO_fault_31 ?_
      have f0_31 := fm_HF_lt (fm_RB_lt f) 3
      refine lv_sipush (v := nI (255)) hx hb d_MO_fault_34 (by decide) ?_
      refine lv_icmp_le (tgt := 42) hx hb d_MO_fault_37 (by decide) (fun c0 => ?_) (fun c0 => ?_)
      · have c_37 : fm_HF (fm_RB f) 3 ≤ 255 := (nI_leI (a := fm_HF (fm_RB f) 3) (b := 255) (by omega) (by omega)).mp c0
        refine fm_join (nL := 4) (q := 69) (LV := [(0, .ref h), (1, .ref fa), (2, .int (fm_bI ((decide (fm_WD (fm_RB f) 0 < 2) || decide (256 < fm_WD (fm_RB f) 8)) || !(fm_all 0 (fm_nz (fm_RB f))))))]) ?_ ?_
        · intro ls hl
          have hl : lv_has ls 4 [(0, .ref h), (1, .ref fa), (2, .int (fm_bI ((decide (fm_WD (fm_RB f) 0 < 2) || decide (256 < fm_WD (fm_RB f) 8)) || !(fm_all 0 (fm_nz (fm_RB f))))))] := hl
          refine lv_iconst (v := nI (2)) hx hb d_MO_fault_69 (by decide) ?_
          refine lv_istore_n (lv' := [(3, .int (nI (2))), (0, .ref h), (1, .ref fa), (2, .int (fm_bI ((decide (fm_WD (fm_RB f) 0 < 2) || decide (256 < fm_WD (fm_RB f) 8)) || !(fm_all 0 (fm_nz (fm_RB f))))))]) hx hb d_MO_fault_70 rfl hl (by decide) rfl (fun ls hl => ?_)
          refine fm_loop1 (LV := fun (j : Nat) => [(0, .ref h), (1, .ref fa), (2, .int (fm_bI ((decide (fm_WD (fm_RB f) 0 < 2) || decide (256 < fm_WD (fm_RB f) 8)) || !(fm_all j (fm_nz (fm_RB f)))))), (3, .int (nI (j + 2)))]) (I := fun (j : Nat) => j ≤ 4) (μ := fun (j : Nat) => 4 - j) ?_ 0 (by decide) ls (lv_sub hl [1, 2, 3, 0] rfl)
          intro j hI_71 ih_71 ls hl
          have hl : lv_has ls 4 [(0, .ref h), (1, .ref fa), (2, .int (fm_bI ((decide (fm_WD (fm_RB f) 0 < 2) || decide (256 < fm_WD (fm_RB f) 8)) || !(fm_all j (fm_nz (fm_RB f)))))), (3, .int (nI (j + 2)))] := hl
          refine lv_iload_n hx hb d_MO_fault_71 rfl (lv_at hl 3 rfl) ?_
          refine lv_bipush (v := nI (6)) hx hb d_MO_fault_72 (by decide) ?_
          refine lv_icmp_ge (tgt := 101) hx hb d_MO_fault_74 (by decide) (fun c0 => ?_) (fun c0 => ?_)
          · have c_74 : 6 ≤ j + 2 := (nI_leI (a := 6) (b := j + 2) (by omega) (by omega)).mp c0
            obtain rfl : j = 4 := by omega
            refine lv_iload_n hx hb d_MO_fault_101 rfl (lv_at hl 2 rfl) ?_
            refine lv_if_eq (tgt := 107) hx hb d_MO_fault_102 (by decide) (fun c0 => ?_) (fun c0 => ?_)
            · have c_102 : ((decide (fm_WD (fm_RB f) 0 < 2) || decide (256 < fm_WD (fm_RB f) 8)) || !(fm_all 4 (fm_nz (fm_RB f)))) = false := fm_bI_f c0
              have hfew : fm_few (fm_RB f) = false := c_102
              refine lv_aload_n hx hb d_MO_fault_107 rfl (lv_at hl 1 rfl) ?_
              refine lv_iconst (v := nI (0)) hx hb d_MO_fault_108 (by decide) ?_
              refine fm_cs S (c_MO_half l dC dI fa cB f 0 (by omega)) rfl rfl k_MO_half q_3_172 ⟨Nat.le_of_ble_eq_true rfl, Nat.le_of_ble_eq_true rfl⟩ (hP.sub [1] rfl) (hK.sub [0] rfl) rfl hl.1 rfl (Nat.le_of_ble_eq_true rfl) ⟨Nat.zero_le _, Nat.zero_le _⟩ d_MO_fault_109 ?_
              have f0_109 := fm_HF_lt (fm_RB_lt f) 0
              refine lv_aload_n hx hb d_MO_fault_112 rfl (lv_at hl 1 rfl) ?_
              refine lv_bipush (v := nI (10)) hx hb d_MO_fault_113 (by decide) ?_
              refine fm_cs S (c_MO_start l dC dI fa cB f 10 (by omega) (by omega)) rfl rfl k_MO_start q_3_178 ⟨Nat.le_of_ble_eq_true rfl, Nat.le_of_ble_eq_true rfl⟩ (hP.sub [1] rfl) (hK.sub [0] rfl) rfl hl.1 rfl (Nat.le_of_ble_eq_true rfl) ⟨Nat.zero_le _, Nat.zero_le _⟩ d_MO_fault_115 ?_
              have f0_115 := fm_ST_le (fm_RB_lt f) 10
              refine lv_icmp_ne (tgt := 135) hx hb d_MO_fault_118 (by decide) (fun c0 => ?_) (fun c0 => ?_)
              · have c_118 : ¬ (fm_HF (fm_RB f) 0 = fm_ST (fm_RB f) 10) := fun z => c0 ((nI_eq (a := fm_HF (fm_RB f) 0) (b := fm_ST (fm_RB f) 10) (by omega) (by omega)).mpr z)
                refine lv_iconst (v := nI (4)) hx hb d_MO_fault_135 (by decide) ?_
                exact W.iret hx hb hr (fun t ht hW => ⟨_, rfl, by rw [fm_fault, if_neg (by rw [c_9]; decide), if_neg (by omega), if_neg (by rw [hfew]; decide), if_pos (by omega)], ht⟩) (fun q hq => by cases hq) d_MO_fault_136
              · have c_118 : fm_HF (fm_RB f) 0 = fm_ST (fm_RB f) 10 := (nI_eq (a := fm_HF (fm_RB f) 0) (b := fm_ST (fm_RB f) 10) (by omega) (by omega)).mp c0
                refine lv_aload_n hx hb d_MO_fault_121 rfl (lv_at hl 0 rfl) ?_
                refine va_get (D := (dC, dI)) (ci := 4) (v := .int (nI (n))) (C := R_MO) (T := F_MO) (N := 11) hx hb ht i_MO hown hK hP 0 rfl rfl 2 (by decide) (ht _ q_3_115) (fun _ h9 => h9) rfl d_MO_fault_122 ?_
                refine lv_iconst (v := nI (4)) hx hb d_MO_fault_125 (by decide) ?_
                refine lv_aload_n hx hb d_MO_fault_126 rfl (lv_at hl 1 rfl) ?_
                refine lv_iconst (v := nI (0)) hx hb d_MO_fault_127 (by decide) ?_
                refine fm_cs S (c_MO_half l dC dI fa cB f 0 (by omega)) rfl rfl k_MO_half q_3_172 ⟨Nat.le_of_ble_eq_true rfl, Nat.le_of_ble_eq_true rfl⟩ (hP.sub [1] rfl) (hK.sub [0] rfl) rfl hl.1 rfl (Nat.le_of_ble_eq_true rfl) ⟨Nat.zero_le _, Nat.zero_le _⟩ d_MO_fault_128 ?_
                have f0_128 := fm_HF_lt (fm_RB_lt f) 0
                refine lv_imul hx hb d_MO_fault_131 ?_
                refine fm_tw (z := nI (4 * (fm_HF (fm_RB f) 0))) (pk_mul _ _) ?_
                refine lv_icmp_eq (tgt := 137) hx hb d_MO_fault_132 (by decide) (fun c0 => ?_) (fun c0 => ?_)
                · have c_132 : n = 4 * (fm_HF (fm_RB f) 0) := (nI_eq (a := n) (b := 4 * (fm_HF (fm_RB f) 0)) (by omega) (by omega)).mp c0
                  have hL : fm_Len (fm_RB f) := ⟨fm_RB_lt f, by omega, by omega, by omega⟩
                  have hne := fm_few_ne hfew
                  refine lv_aload_n hx hb d_MO_fault_137 rfl (lv_at hl 1 rfl) ?_
                  refine fm_cs S (c_MO_designOf l dC dI fa cB f (hL)) rfl rfl k_MO_designOf q_3_181 ⟨Nat.le_of_ble_eq_true rfl, Nat.le_of_ble_eq_true rfl⟩ (hP.sub [1] rfl) (hK.sub [0] rfl) rfl hl.1 rfl (Nat.le_of_ble_eq_true rfl) ⟨Nat.zero_le _, Nat.zero_le _⟩ d_MO_fault_138 ?_
                  refine lv_ldc (own := R_MO) (v := nI (1048576)) hx hb hown (ht _ q_3_187) d_MO_fault_141 ?_
                  refine lv_icmp_ge (tgt := 148) hx hb d_MO_fault_143 (by decide) (fun c0 => ?_) (fun c0 => ?_)
                  · have c_143 := c0
                    refine lv_aload_n hx hb d_MO_fault_148 rfl (lv_at hl 1 rfl) ?_
                    refine fm_cs S (c_MO_areSizesRight l dC dI fa cB f (hL)) rfl rfl k_MO_areSizesRight q_3_188 ⟨Nat.le_of_ble_eq_true rfl, Nat.le_of_ble_eq_true rfl⟩ (hP.sub [1] rfl) (hK.sub [0] rfl) rfl hl.1 rfl (Nat.le_of_ble_eq_true rfl) ⟨Nat.zero_le _, Nat.zero_le _⟩ d_MO_fault_149 ?_
                    refine lv_if_ne (tgt := 158) hx hb d_MO_fault_152 (by decide) (fun c0 => ?_) (fun c0 => ?_)
                    · have c_152 : (fm_all (fm_WD (fm_RB f) 1) (fm_size1 (fm_RB f))) = true := fm_bI_t c0
                      refine lv_aload_n hx hb d_MO_fault_158 rfl (lv_at hl 1 rfl) ?_
                      refine fm_cs S (c_MO_areTagsRight l dC dI fa cB f (hL)) rfl rfl k_MO_areTagsRight q_3_191 ⟨Nat.le_of_ble_eq_true rfl, Nat.le_of_ble_eq_true rfl⟩ (hP.sub [1] rfl) (hK.sub [0] rfl) rfl hl.1 rfl (Nat.le_of_ble_eq_true rfl) ⟨Nat.zero_le _, Nat.zero_le _⟩ d_MO_fault_159 ?_
                      refine lv_if_ne (tgt := 168) hx hb d_MO_fault_162 (by decide) (fun c0 => ?_) (fun c0 => ?_)
                      · have c_162 : (fm_all (fm_WD (fm_RB f) 1) (fun k => fm_tag1 (fm_RB f) (fm_HF (fm_RB f) 2 + k))) = true := fm_bI_t c0
                        refine lv_aload_n hx hb d_MO_fault_168 rfl (lv_at hl 1 rfl) ?_
                        refine fm_cs S (c_MO_areTablesRight l dC dI fa cB f (hL) (hne)) rfl rfl k_MO_areTablesRight q_3_206 ⟨Nat.le_of_ble_eq_true rfl, Nat.le_of_ble_eq_true rfl⟩ (hP.sub [1] rfl) (hK.sub [0] rfl) rfl hl.1 rfl (Nat.le_of_ble_eq_true rfl) ⟨Nat.zero_le _, Nat.zero_le _⟩ d_MO_fault_169 ?_
                        refine lv_if_ne (tgt := 178) hx hb d_MO_fault_172 (by decide) (fun c0 => ?_) (fun c0 => ?_)
                        · have c_172 : (fm_tables (fm_RB f)) = true := fm_bI_t c0
                          refine lv_aload_n hx hb d_MO_fault_178 rfl (lv_at hl 1 rfl) ?_
                          refine fm_cs S (c_MO_isProgramRight l dC dI fa cB f (hL)) rfl rfl k_MO_isProgramRight q_3_212 ⟨Nat.le_of_ble_eq_true rfl, Nat.le_of_ble_eq_true rfl⟩ (hP.sub [1] rfl) (hK.sub [0] rfl) rfl hl.1 rfl (Nat.le_of_ble_eq_true rfl) ⟨Nat.zero_le _, Nat.zero_le _⟩ d_MO_fault_179 ?_
                          refine lv_if_ne (tgt := 188) hx hb d_MO_fault_182 (by decide) (fun c0 => ?_) (fun c0 => ?_)
                          · have c_182 : (fm_all (fm_WD (fm_RB f) 6) (fm_word1 (fm_RB f))) = true := fm_bI_t c0
                            refine lv_aload_n hx hb d_MO_fault_188 rfl (lv_at hl 1 rfl) ?_
                            refine fm_cs S (c_MO_areRecipesRight l dC dI fa cB f (hL)) rfl rfl k_MO_areRecipesRight q_3_224 ⟨Nat.le_of_ble_eq_true rfl, Nat.le_of_ble_eq_true rfl⟩ (hP.sub [1] rfl) (hK.sub [0] rfl) rfl hl.1 rfl (Nat.le_of_ble_eq_true rfl) ⟨Nat.zero_le _, Nat.zero_le _⟩ d_MO_fault_189 ?_
                            refine lv_if_ne (tgt := 200) hx hb d_MO_fault_192 (by decide) (fun c0 => ?_) (fun c0 => ?_)
                            · have c_192 : (fm_all (fm_WD (fm_RB f) 8) (fm_recipe1 (fm_RB f))) = true := fm_bI_t c0
                              refine lv_aload_n hx hb d_MO_fault_200 rfl (lv_at hl 1 rfl) ?_
                              refine lv_bipush (v := nI (9)) hx hb d_MO_fault_201 (by decide) ?_
                              refine lv_iconst (v := nI (1)) hx hb d_MO_fault_203 (by decide) ?_
                              refine fm_cs S (c_MO_areFractions l dC dI fa cB f 9 1 (hL) (by omega) (by omega)) rfl rfl k_MO_areFractions q_3_209 ⟨Nat.le_of_ble_eq_true rfl, Nat.le_of_ble_eq_true rfl⟩ (hP.sub [1] rfl) (hK.sub [0] rfl) rfl hl.1 rfl (Nat.le_of_ble_eq_true rfl) ⟨Nat.zero_le _, Nat.zero_le _⟩ d_MO_fault_204 ?_
                              refine lv_if_eq (tgt := 214) hx hb d_MO_fault_207 (by decide) (fun c0 => ?_) (fun c0 => ?_)
                              · have c_207 : (fm_fracs (fm_RB f) 9 1) = false := fm_bI_f c0
                                refine lv_bipush (v := nI (11)) hx hb d_MO_fault_214 (by decide) ?_
                                exact W.iret hx hb hr (fun t ht hW => ⟨_, rfl, by rw [fm_fault, if_neg (by rw [c_9]; decide), if_neg (by omega), if_neg (by rw [hfew]; decide), if_neg (by omega), if_neg (Int32.not_lt.mpr c_143), if_neg (by rw [c_152]; decide), if_neg (by rw [c_162]; decide), if_neg (by rw [c_172]; decide), if_neg (by rw [c_182]; decide), if_neg (by rw [c_192]; decide), if_neg (by rw [c_207]; decide)], ht⟩) (fun q hq => by cases hq) d_MO_fault_216
                              · have c_207 : (fm_fracs (fm_RB f) 9 1) = true := fm_bI_t c0
                                refine lv_iconst (v := nI (0)) hx hb d_MO_fault_210 (by decide) ?_
                                refine lv_goto (tgt := 216) hx hb d_MO_fault_211 (by decide) ?_
                                exact W.iret hx hb hr (fun t ht hW => ⟨_, rfl, by rw [fm_fault, if_neg (by rw [c_9]; decide), if_neg (by omega), if_neg (by rw [hfew]; decide), if_neg (by omega), if_neg (Int32.not_lt.mpr c_143), if_neg (by rw [c_152]; decide), if_neg (by rw [c_162]; decide), if_neg (by rw [c_172]; decide), if_neg (by rw [c_182]; decide), if_neg (by rw [c_192]; decide), if_pos c_207], ht⟩) (fun q hq => by cases hq) d_MO_fault_216
                            · have c_192 : (fm_all (fm_WD (fm_RB f) 8) (fm_recipe1 (fm_RB f))) = false := fm_bI_f c0
                              refine lv_bipush (v := nI (10)) hx hb d_MO_fault_195 (by decide) ?_
                              refine lv_goto (tgt := 216) hx hb d_MO_fault_197 (by decide) ?_
                              exact W.iret hx hb hr (fun t ht hW => ⟨_, rfl, by rw [fm_fault, if_neg (by rw [c_9]; decide), if_neg (by omega), if_neg (by rw [hfew]; decide), if_neg (by omega), if_neg (Int32.not_lt.mpr c_143), if_neg (by rw [c_152]; decide), if_neg (by rw [c_162]; decide), if_neg (by rw [c_172]; decide), if_neg (by rw [c_182]; decide), if_pos c_192], ht⟩) (fun q hq => by cases hq) d_MO_fault_216
                          · have c_182 : (fm_all (fm_WD (fm_RB f) 6) (fm_word1 (fm_RB f))) = false := fm_bI_f c0
                            refine lv_bipush (v := nI (9)) hx hb d_MO_fault_185 (by decide) ?_
                            exact W.iret hx hb hr (fun t ht hW => ⟨_, rfl, by rw [fm_fault, if_neg (by rw [c_9]; decide), if_neg (by omega), if_neg (by rw [hfew]; decide), if_neg (by omega), if_neg (Int32.not_lt.mpr c_143), if_neg (by rw [c_152]; decide), if_neg (by rw [c_162]; decide), if_neg (by rw [c_172]; decide), if_pos c_182], ht⟩) (fun q hq => by cases hq) d_MO_fault_187
                        · have c_172 : (fm_tables (fm_RB f)) = false := fm_bI_f c0
                          refine lv_bipush (v := nI (8)) hx hb d_MO_fault_175 (by decide) ?_
                          exact W.iret hx hb hr (fun t ht hW => ⟨_, rfl, by rw [fm_fault, if_neg (by rw [c_9]; decide), if_neg (by omega), if_neg (by rw [hfew]; decide), if_neg (by omega), if_neg (Int32.not_lt.mpr c_143), if_neg (by rw [c_152]; decide), if_neg (by rw [c_162]; decide), if_pos c_172], ht⟩) (fun q hq => by cases hq) d_MO_fault_177
                      · have c_162 : (fm_all (fm_WD (fm_RB f) 1) (fun k => fm_tag1 (fm_RB f) (fm_HF (fm_RB f) 2 + k))) = false := fm_bI_f c0
                        refine lv_bipush (v := nI (7)) hx hb d_MO_fault_165 (by decide) ?_
                        exact W.iret hx hb hr (fun t ht hW => ⟨_, rfl, by rw [fm_fault, if_neg (by rw [c_9]; decide), if_neg (by omega), if_neg (by rw [hfew]; decide), if_neg (by omega), if_neg (Int32.not_lt.mpr c_143), if_neg (by rw [c_152]; decide), if_pos c_162], ht⟩) (fun q hq => by cases hq) d_MO_fault_167
                    · have c_152 : (fm_all (fm_WD (fm_RB f) 1) (fm_size1 (fm_RB f))) = false := fm_bI_f c0
                      refine lv_bipush (v := nI (6)) hx hb d_MO_fault_155 (by decide) ?_
                      exact W.iret hx hb hr (fun t ht hW => ⟨_, rfl, by rw [fm_fault, if_neg (by rw [c_9]; decide), if_neg (by omega), if_neg (by rw [hfew]; decide), if_neg (by omega), if_neg (Int32.not_lt.mpr c_143), if_pos c_152], ht⟩) (fun q hq => by cases hq) d_MO_fault_157
                  · have c_143 := c0
                    refine lv_iconst (v := nI (5)) hx hb d_MO_fault_146 (by decide) ?_
                    exact W.iret hx hb hr (fun t ht hW => ⟨_, rfl, by rw [fm_fault, if_neg (by rw [c_9]; decide), if_neg (by omega), if_neg (by rw [hfew]; decide), if_neg (by omega), if_pos (Int32.not_le.mp c_143)], ht⟩) (fun q hq => by cases hq) d_MO_fault_147
                · have c_132 : ¬ (n = 4 * (fm_HF (fm_RB f) 0)) := fun z => c0 ((nI_eq (a := n) (b := 4 * (fm_HF (fm_RB f) 0)) (by omega) (by omega)).mpr z)
                  refine lv_iconst (v := nI (4)) hx hb d_MO_fault_135 (by decide) ?_
                  exact W.iret hx hb hr (fun t ht hW => ⟨_, rfl, by rw [fm_fault, if_neg (by rw [c_9]; decide), if_neg (by omega), if_neg (by rw [hfew]; decide), if_pos (by omega)], ht⟩) (fun q hq => by cases hq) d_MO_fault_136
            · have c_102 : ((decide (fm_WD (fm_RB f) 0 < 2) || decide (256 < fm_WD (fm_RB f) 8)) || !(fm_all 4 (fm_nz (fm_RB f)))) = true := fm_bI_t c0
              have hfew : fm_few (fm_RB f) = true := c_102
              refine lv_iconst (v := nI (3)) hx hb d_MO_fault_105 (by decide) ?_
              exact W.iret hx hb hr (fun t ht hW => ⟨_, rfl, by rw [fm_fault, if_neg (by rw [c_9]; decide), if_neg (by omega), if_pos hfew], ht⟩) (fun q hq => by cases hq) d_MO_fault_106
          · have c_74 : ¬ (6 ≤ j + 2) := fun z => c0 ((nI_leI (a := 6) (b := j + 2) (by omega) (by omega)).mpr z)
            refine lv_iload_n hx hb d_MO_fault_77 rfl (lv_at hl 2 rfl) ?_
            refine lv_if_ne (tgt := 89) hx hb d_MO_fault_78 (by decide) (fun c0 => ?_) (fun c0 => ?_)
            · have c_78 : ((decide (fm_WD (fm_RB f) 0 < 2) || decide (256 < fm_WD (fm_RB f) 8)) || !(fm_all j (fm_nz (fm_RB f)))) = true := fm_bI_t c0
              refine lv_iconst (v := nI (1)) hx hb d_MO_fault_89 (by decide) ?_
              refine lv_goto (tgt := 94) hx hb d_MO_fault_90 (by decide) ?_
              refine fm_tw (z := (fm_bI ((decide (fm_WD (fm_RB f) 0 < 2) || decide (256 < fm_WD (fm_RB f) 8)) || !(fm_all (j + 1) (fm_nz (fm_RB f)))))) (by first | exact fm_fwT c_78 | exact fm_fwS c_78 (Or.inl ⟨rfl, decide_eq_false (fun z => z c_86)⟩) | exact fm_fwS c_78 (Or.inr ⟨rfl, decide_eq_true c_86⟩)) ?_
              refine lv_istore_n (lv' := [(2, .int (fm_bI ((decide (fm_WD (fm_RB f) 0 < 2) || decide (256 < fm_WD (fm_RB f) 8)) || !(fm_all (j + 1) (fm_nz (fm_RB f)))))), (0, .ref h), (1, .ref fa), (3, .int (nI (j + 2)))]) hx hb d_MO_fault_94 rfl hl (by decide) rfl (fun ls hl => ?_)
              refine lv_iinc (v := nI (j + 2 + 1)) (lv' := [(3, .int (nI (j + 2 + 1))), (2, .int (fm_bI ((decide (fm_WD (fm_RB f) 0 < 2) || decide (256 < fm_WD (fm_RB f) 8)) || !(fm_all (j + 1) (fm_nz (fm_RB f)))))), (0, .ref h), (1, .ref fa)]) hx hb d_MO_fault_95 hl (k := 3) rfl (nI_1 _) (by decide) rfl (fun ls hl => ?_)
              refine lv_goto (tgt := 71) hx hb d_MO_fault_98 (by decide) ?_
              exact ih_71 (j + 1) ls (by omega) (by omega) (lv_sub hl [2, 3, 1, 0] rfl)
            · have c_78 : ((decide (fm_WD (fm_RB f) 0 < 2) || decide (256 < fm_WD (fm_RB f) 8)) || !(fm_all j (fm_nz (fm_RB f)))) = false := fm_bI_f c0
              refine lv_aload_n hx hb d_MO_fault_81 rfl (lv_at hl 1 rfl) ?_
              refine lv_iload_n hx hb d_MO_fault_82 rfl (lv_at hl 3 rfl) ?_
              refine fm_cs S (c_MO_words l dC dI fa cB f (j + 2) (by omega) (fun z => by omega)) rfl rfl k_MO_words q_3_175 ⟨Nat.le_of_ble_eq_true rfl, Nat.le_of_ble_eq_true rfl⟩ (hP.sub [1] rfl) (hK.sub [0] rfl) rfl hl.1 rfl (Nat.le_of_ble_eq_true rfl) ⟨Nat.zero_le _, Nat.zero_le _⟩ d_MO_fault_83 ?_
              have f0_83 := fm_WD_le (fm_RB_lt f) (j + 2)
              refine lv_if_ne (tgt := 93) hx hb d_MO_fault_86 (by decide) (fun c0 => ?_) (fun c0 => ?_)
              · have c_86 : ¬ (fm_WD (fm_RB f) (j + 2) = 0) := fun z => c0 ((nI_eq (a := fm_WD (fm_RB f) (j + 2)) (b := 0) (by omega) (by omega)).mpr z)
                refine lv_iconst (v := nI (0)) hx hb d_MO_fault_93 (by decide) ?_
                refine fm_tw (z := (fm_bI ((decide (fm_WD (fm_RB f) 0 < 2) || decide (256 < fm_WD (fm_RB f) 8)) || !(fm_all (j + 1) (fm_nz (fm_RB f)))))) (by first | exact fm_fwT c_78 | exact fm_fwS c_78 (Or.inl ⟨rfl, decide_eq_false (fun z => z c_86)⟩) | exact fm_fwS c_78 (Or.inr ⟨rfl, decide_eq_true c_86⟩)) ?_
                refine lv_istore_n (lv' := [(2, .int (fm_bI ((decide (fm_WD (fm_RB f) 0 < 2) || decide (256 < fm_WD (fm_RB f) 8)) || !(fm_all (j + 1) (fm_nz (fm_RB f)))))), (0, .ref h), (1, .ref fa), (3, .int (nI (j + 2)))]) hx hb d_MO_fault_94 rfl hl (by decide) rfl (fun ls hl => ?_)
                refine lv_iinc (v := nI (j + 2 + 1)) (lv' := [(3, .int (nI (j + 2 + 1))), (2, .int (fm_bI ((decide (fm_WD (fm_RB f) 0 < 2) || decide (256 < fm_WD (fm_RB f) 8)) || !(fm_all (j + 1) (fm_nz (fm_RB f)))))), (0, .ref h), (1, .ref fa)]) hx hb d_MO_fault_95 hl (k := 3) rfl (nI_1 _) (by decide) rfl (fun ls hl => ?_)
                refine lv_goto (tgt := 71) hx hb d_MO_fault_98 (by decide) ?_
                exact ih_71 (j + 1) ls (by omega) (by omega) (lv_sub hl [2, 3, 1, 0] rfl)
              · have c_86 : fm_WD (fm_RB f) (j + 2) = 0 := (nI_eq (a := fm_WD (fm_RB f) (j + 2)) (b := 0) (by omega) (by omega)).mp c0
                refine lv_iconst (v := nI (1)) hx hb d_MO_fault_89 (by decide) ?_
                refine lv_goto (tgt := 94) hx hb d_MO_fault_90 (by decide) ?_
                refine fm_tw (z := (fm_bI ((decide (fm_WD (fm_RB f) 0 < 2) || decide (256 < fm_WD (fm_RB f) 8)) || !(fm_all (j + 1) (fm_nz (fm_RB f)))))) (by first | exact fm_fwT c_78 | exact fm_fwS c_78 (Or.inl ⟨rfl, decide_eq_false (fun z => z c_86)⟩) | exact fm_fwS c_78 (Or.inr ⟨rfl, decide_eq_true c_86⟩)) ?_
                refine lv_istore_n (lv' := [(2, .int (fm_bI ((decide (fm_WD (fm_RB f) 0 < 2) || decide (256 < fm_WD (fm_RB f) 8)) || !(fm_all (j + 1) (fm_nz (fm_RB f)))))), (0, .ref h), (1, .ref fa), (3, .int (nI (j + 2)))]) hx hb d_MO_fault_94 rfl hl (by decide) rfl (fun ls hl => ?_)
                refine lv_iinc (v := nI (j + 2 + 1)) (lv' := [(3, .int (nI (j + 2 + 1))), (2, .int (fm_bI ((decide (fm_WD (fm_RB f) 0 < 2) || decide (256 < fm_WD (fm_RB f) 8)) || !(fm_all (j + 1) (fm_nz (fm_RB f)))))), (0, .ref h), (1, .ref fa)]) hx hb d_MO_fault_95 hl (k := 3) rfl (nI_1 _) (by decide) rfl (fun ls hl => ?_)
                refine lv_goto (tgt := 71) hx hb d_MO_fault_98 (by decide) ?_
                exact ih_71 (j + 1) ls (by omega) (by omega) (lv_sub hl [2, 3, 1, 0] rfl)
        intro jn_69
        refine lv_aload_n hx hb d_MO_fault_42 rfl (lv_at hl 0 rfl) ?_
        refine lv_iconst (v := nI (0)) hx hb d_MO_fault_43 (by decide) ?_
        refine fm_cs S (c_MO_words l dC dI fa cB f 0 (by omega) (fun z => by omega)) rfl rfl k_MO_words q_3_175 ⟨Nat.le_of_ble_eq_true rfl, Nat.le_of_ble_eq_true rfl⟩ (hP.sub [1] rfl) (hK.sub [0] rfl) rfl hl.1 rfl (Nat.le_of_ble_eq_true rfl) ⟨Nat.zero_le _, Nat.zero_le _⟩ d_MO_fault_44 ?_
        have f0_44 := fm_WD_le (fm_RB_lt f) 0
        refine lv_iconst (v := nI (2)) hx hb d_MO_fault_47 (by decide) ?_
        refine lv_icmp_lt (tgt := 63) hx hb d_MO_fault_48 (by decide) (fun c0 => ?_) (fun c0 => ?_)
        · have c_48 : fm_WD (fm_RB f) 0 < 2 := (nI_ltI (a := fm_WD (fm_RB f) 0) (b := 2) (by omega) (by omega)).mp c0
          refine lv_iconst (v := nI (1)) hx hb d_MO_fault_63 (by decide) ?_
          refine lv_goto (tgt := 68) hx hb d_MO_fault_64 (by decide) ?_
          refine fm_tw (z := (fm_bI ((decide (fm_WD (fm_RB f) 0 < 2) || decide (256 < fm_WD (fm_RB f) 8)) || !(fm_all 0 (fm_nz (fm_RB f)))))) (by first | exact fm_bI_1 (by rw [decide_eq_true c_48]; rfl) | exact fm_bI_1 (by rw [decide_eq_true (Nat.lt_of_not_le c_60), Bool.or_true]; rfl) | exact fm_bI_0 (by rw [decide_eq_false c_48, decide_eq_false (Nat.not_lt.mpr c_60)]; rfl)) ?_
          refine lv_istore_n (lv' := [(2, .int (fm_bI ((decide (fm_WD (fm_RB f) 0 < 2) || decide (256 < fm_WD (fm_RB f) 8)) || !(fm_all 0 (fm_nz (fm_RB f)))))), (1, .ref fa), (0, .ref h)]) hx hb d_MO_fault_68 rfl hl (by decide) rfl (fun ls hl => ?_)
          exact jn_69 ls (lv_sub hl [2, 1, 0] rfl)
        · have c_48 : ¬ (fm_WD (fm_RB f) 0 < 2) := fun z => c0 ((nI_ltI (a := fm_WD (fm_RB f) 0) (b := 2) (by omega) (by omega)).mpr z)
          refine lv_aload_n hx hb d_MO_fault_51 rfl (lv_at hl 0 rfl) ?_
          refine lv_bipush (v := nI (8)) hx hb d_MO_fault_52 (by decide) ?_
          refine fm_cs S (c_MO_words l dC dI fa cB f 8 (by omega) (fun z => by omega)) rfl rfl k_MO_words q_3_175 ⟨Nat.le_of_ble_eq_true rfl, Nat.le_of_ble_eq_true rfl⟩ (hP.sub [1] rfl) (hK.sub [0] rfl) rfl hl.1 rfl (Nat.le_of_ble_eq_true rfl) ⟨Nat.zero_le _, Nat.zero_le _⟩ d_MO_fault_54 ?_
          have f0_54 := fm_WD_le (fm_RB_lt f) 8
          refine lv_sipush (v := nI (256)) hx hb d_MO_fault_57 (by decide) ?_
          refine lv_icmp_le (tgt := 67) hx hb d_MO_fault_60 (by decide) (fun c0 => ?_) (fun c0 => ?_)
          · have c_60 : fm_WD (fm_RB f) 8 ≤ 256 := (nI_leI (a := fm_WD (fm_RB f) 8) (b := 256) (by omega) (by omega)).mp c0
            refine lv_iconst (v := nI (0)) hx hb d_MO_fault_67 (by decide) ?_
            refine fm_tw (z := (fm_bI ((decide (fm_WD (fm_RB f) 0 < 2) || decide (256 < fm_WD (fm_RB f) 8)) || !(fm_all 0 (fm_nz (fm_RB f)))))) (by first | exact fm_bI_1 (by rw [decide_eq_true c_48]; rfl) | exact fm_bI_1 (by rw [decide_eq_true (Nat.lt_of_not_le c_60), Bool.or_true]; rfl) | exact fm_bI_0 (by rw [decide_eq_false c_48, decide_eq_false (Nat.not_lt.mpr c_60)]; rfl)) ?_
            refine lv_istore_n (lv' := [(2, .int (fm_bI ((decide (fm_WD (fm_RB f) 0 < 2) || decide (256 < fm_WD (fm_RB f) 8)) || !(fm_all 0 (fm_nz (fm_RB f)))))), (1, .ref fa), (0, .ref h)]) hx hb d_MO_fault_68 rfl hl (by decide) rfl (fun ls hl => ?_)
            exact jn_69 ls (lv_sub hl [2, 1, 0] rfl)
          · have c_60 : ¬ (fm_WD (fm_RB f) 8 ≤ 256) := fun z => c0 ((nI_leI (a := fm_WD (fm_RB f) 8) (b := 256) (by omega) (by omega)).mpr z)
            refine lv_iconst (v := nI (1)) hx hb d_MO_fault_63 (by decide) ?_
            refine lv_goto (tgt := 68) hx hb d_MO_fault_64 (by decide) ?_
            refine fm_tw (z := (fm_bI ((decide (fm_WD (fm_RB f) 0 < 2) || decide (256 < fm_WD (fm_RB f) 8)) || !(fm_all 0 (fm_nz (fm_RB f)))))) (by first | exact fm_bI_1 (by rw [decide_eq_true c_48]; rfl) | exact fm_bI_1 (by rw [decide_eq_true (Nat.lt_of_not_le c_60), Bool.or_true]; rfl) | exact fm_bI_0 (by rw [decide_eq_false c_48, decide_eq_false (Nat.not_lt.mpr c_60)]; rfl)) ?_
            refine lv_istore_n (lv' := [(2, .int (fm_bI ((decide (fm_WD (fm_RB f) 0 < 2) || decide (256 < fm_WD (fm_RB f) 8)) || !(fm_all 0 (fm_nz (fm_RB f)))))), (1, .ref fa), (0, .ref h)]) hx hb d_MO_fault_68 rfl hl (by decide) rfl (fun ls hl => ?_)
            exact jn_69 ls (lv_sub hl [2, 1, 0] rfl)
      · have c_37 : ¬ (fm_HF (fm_RB f) 3 ≤ 255) := fun z => c0 ((nI_leI (a := fm_HF (fm_RB f) 3) (b := 255) (by omega) (by omega)).mpr z)
        refine lv_iconst (v := nI (2)) hx hb d_MO_fault_40 (by decide) ?_
        exact W.iret hx hb hr (fun t ht hW => ⟨_, rfl, by rw [fm_fault, if_neg (by rw [c_9]; decide), if_pos (by omega)], ht⟩) (fun q hq => by cases hq) d_MO_fault_41
  · have c_9 : (fm_small (fm_RB f) n) = false := fm_bI_f c0
    refine lv_iconst (v := nI (1)) hx hb d_MO_fault_12 (by decide) ?_
    exact W.iret hx hb hr (fun t ht hW => ⟨_, rfl, by rw [fm_fault, if_pos c_9], ht⟩) (fun q hq => by cases hq) d_MO_fault_13
end
section
/-! THE MODEL, third part: words of 32 bits, as the class holds them -/
def fm_tn (x : Int32) : Nat := x.toBitVec.toNat
theorem fm_tn_lt (x : Int32) : fm_tn x < 4294967296 := x.toBitVec.isLt
theorem fm_tn_nI {n : Nat} (h : n < 4294967296) : fm_tn (nI n) = n := pk_tn h
theorem fm_tn_inj {x y : Int32} (h : fm_tn x = fm_tn y) : x = y := Int32.toBitVec_inj.mp (BitVec.eq_of_toNat_eq h)
theorem fm_su : ∀ k, k < 32 → (((nI k).toUInt32 &&& Int32.toUInt32 31).toBitVec % 32).toNat = k := by decide
theorem fm_ush (x : Int32) {k : Nat} (hk : k < 32) : (x.toUInt32 >>> ((nI k).toUInt32 &&& Int32.toUInt32 31)).toInt32 = nI (fm_tn x / 2 ^ k) := by
  apply fm_tn_inj
  have h := pk_ushr x (nI k) k (fm_su k hk)
  have h2 : fm_tn x / 2 ^ k < 4294967296 := Nat.lt_of_le_of_lt (Nat.div_le_self _ _) (fm_tn_lt x)
  rw [fm_tn_nI h2]
  exact h
def fm_by (x : Int32) (j : Nat) : Nat := fm_tn x / 2 ^ (24 - 8 * j) % 256
theorem fm_by_lt (x : Int32) (j : Nat) : fm_by x j < 256 := Nat.mod_lt _ (by decide)
theorem fm_by0 (x : Int32) : nI (fm_tn x / 2 ^ 24) = nI (fm_by x 0) := by
  have h := fm_tn_lt x
  exact congrArg nI (by unfold fm_by; simp only [Nat.reducePow, Nat.reduceMul, Nat.reduceSub]; omega)
theorem fm_by1h (x : Int32) : nI (fm_tn x / 2 ^ 20 % 2 ^ 4) = nI (fm_by x 1 / 16) := by
  exact congrArg nI (by unfold fm_by; simp only [Nat.reducePow, Nat.reduceMul, Nat.reduceSub]; omega)
theorem fm_by1l (x : Int32) : nI (fm_tn x / 2 ^ 16 % 2 ^ 4) = nI (fm_by x 1 % 16) := by
  exact congrArg nI (by unfold fm_by; simp only [Nat.reducePow, Nat.reduceMul, Nat.reduceSub]; omega)
theorem fm_by2h (x : Int32) : nI (fm_tn x / 2 ^ 10 % 2 ^ 6) = nI (fm_by x 2 / 4) := by
  exact congrArg nI (by unfold fm_by; simp only [Nat.reducePow, Nat.reduceMul, Nat.reduceSub]; omega)
theorem fm_by2l (x : Int32) : nI (fm_tn x / 2 ^ 8 % 2 ^ 2) = nI (fm_by x 2 % 4) := by
  exact congrArg nI (by unfold fm_by; simp only [Nat.reducePow, Nat.reduceMul, Nat.reduceSub]; omega)
theorem fm_by3 (x : Int32) : x &&& nI 255 = nI (fm_by x 3) := by
  rw [show x &&& nI 255 = nI (fm_tn x % 2 ^ 8) from pk_and x 8 (by decide)]
  exact congrArg nI (by unfold fm_by; simp only [Nat.reducePow, Nat.reduceMul, Nat.reduceSub]; omega)
theorem fm_by23 (x : Int32) : x &&& nI 65535 = nI (256 * fm_by x 2 + fm_by x 3) := by
  rw [show x &&& nI 65535 = nI (fm_tn x % 2 ^ 16) from pk_and x 16 (by decide)]
  exact congrArg nI (by unfold fm_by; simp only [Nat.reducePow, Nat.reduceMul, Nat.reduceSub]; omega)
theorem fm_mk (x : Int32) {a k : Nat} {m : Nat} (hm : (nI m).toBitVec.toNat = 2 ^ k - 1) : nI (fm_tn x / 2 ^ a) &&& nI m = nI (fm_tn x / 2 ^ a % 2 ^ k) :=
  pk_andN (Nat.lt_of_le_of_lt (Nat.div_le_self _ _) (fm_tn_lt x)) k hm
/-- a word of a part -/
def fm_W (B : Nat → Nat) (p k : Nat) : Int32 := nI (fm_WO B (fm_ST B p + k))
theorem fm_WO_lt {B : Nat → Nat} (hB : ∀ i, B i < 256) (i : Nat) : fm_WO B i < 4294967296 := by
  have h0 := hB (4 * i)
  have h1 := hB (4 * i + 1)
  have h2 := hB (4 * i + 2)
  have h3 := hB (4 * i + 3)
  unfold fm_WO
  omega
theorem fm_by_W {B : Nat → Nat} (hB : ∀ i, B i < 256) (p k : Nat) {j : Nat} (hj : j < 4) : fm_by (fm_W B p k) j = fm_AT B p k j := by
  unfold fm_by fm_W
  rw [fm_tn_nI (fm_WO_lt hB _)]
  unfold fm_WO fm_AT
  generalize fm_ST B p + k = i
  have h0 := hB (4 * i)
  have h1 := hB (4 * i + 1)
  have h2 := hB (4 * i + 2)
  have h3 := hB (4 * i + 3)
  rcases (show j = 0 ∨ j = 1 ∨ j = 2 ∨ j = 3 by omega) with rfl | rfl | rfl | rfl <;> simp only [Nat.reducePow, Nat.reduceMul, Nat.reduceSub, Nat.add_zero] <;> omega
theorem fm_by_0 (j : Nat) : fm_by 0 j = 0 := by
  unfold fm_by
  rw [show fm_tn 0 = 0 from rfl, Nat.zero_div]
theorem fm_numW {B : Nat → Nat} (hB : ∀ i, B i < 256) (p k : Nat) : fm_W B p k &&& nI 16777215 = nI (fm_num B p k) := by
  rw [show fm_W B p k &&& nI 16777215 = nI (fm_tn (fm_W B p k) % 2 ^ 24) from pk_and _ 24 (by decide)]
  refine congrArg nI ?_
  unfold fm_W
  rw [fm_tn_nI (fm_WO_lt hB _)]
  unfold fm_WO fm_num fm_AT
  generalize fm_ST B p + k = i
  have h0 := hB (4 * i)
  have h1 := hB (4 * i + 1)
  have h2 := hB (4 * i + 2)
  have h3 := hB (4 * i + 3)
  simp only [Nat.reducePow]
  omega
/-- a font's cells, behind faults 1 to 4 -/
def fm_FO (B : Nat → Nat) (w st ln : Nat → Int32) : Prop := fm_Len B ∧ (∀ i, i < fm_ST B 10 → w i = nI (fm_WO B i)) ∧ (∀ p, p < 10 → st p = nI (fm_ST B p)) ∧ (∀ p, p < 10 → ln p = nI (fm_WD B p))
/-- number i of a file's first words -/
def fm_nb (w : Nat → Int32) (i : Nat) : Nat := if i % 2 = 0 then fm_tn (w (i / 2)) / 65536 else fm_tn (w (i / 2)) % 65536
theorem fm_nb_lt (w : Nat → Int32) (i : Nat) : fm_nb w i < 65536 := by
  have h := fm_tn_lt (w (i / 2))
  unfold fm_nb
  split <;> omega
/-- a word by a part and a place, 0 where there is none -/
def fm_wd (B : Nat → Nat) (p : Nat) (x : Int32) : Int32 := if ¬ x < 0 ∧ x.toNatClampNeg < fm_WD B p then fm_W B p x.toNatClampNeg else nI 0
theorem fm_wd_in {B : Nat → Nat} {p k : Nat} (hk : k < 2 ^ 31) (h : k < fm_WD B p) : fm_wd B p (nI k) = fm_W B p k := by
  unfold fm_wd
  rw [nI_clamp hk, if_pos ⟨nI_pos hk, h⟩]
theorem fm_wd_out {B : Nat → Nat} {p k : Nat} (hk : k < 2 ^ 31) (h : ¬ k < fm_WD B p) : fm_wd B p (nI k) = nI 0 := by
  unfold fm_wd
  rw [nI_clamp hk, if_neg (fun z => h z.2)]
theorem fm_wd_neg {B : Nat → Nat} {p : Nat} {x : Int32} (h : x < 0) : fm_wd B p x = nI 0 := by
  unfold fm_wd
  rw [if_neg (fun z => z.1 h)]
theorem fm_eg_wd {B : Nat → Nat} (hB : ∀ i, B i < 256) : fm_eg B = if fm_by (fm_wd B 6 (nI 0)) 0 = 255 then nI (fm_by (fm_wd B 6 (nI 0)) 1) else -1 := by
  unfold fm_eg
  by_cases h : 0 < fm_WD B 6
  · rw [fm_wd_in (by decide) h, fm_by_W hB 6 0 (by decide), fm_by_W hB 6 0 (by decide)]
    by_cases h2 : fm_AT B 6 0 0 = 255
    · rw [if_pos ⟨h, h2⟩, if_pos h2]
    · rw [if_neg (fun z => h2 z.2), if_neg h2]
  · rw [fm_wd_out (by decide) h, if_neg (fun z => h z.1), if_neg (by rw [show nI 0 = 0 from rfl, fm_by_0]; decide)]
theorem fm_ep_wd {B : Nat → Nat} (hB : ∀ i, B i < 256) : fm_ep B = if fm_by (fm_wd B 6 (nI (fm_WD B 6) - nI 1)) 0 = 255 then nI (256 * fm_by (fm_wd B 6 (nI (fm_WD B 6) - nI 1)) 2 + fm_by (fm_wd B 6 (nI (fm_WD B 6) - nI 1)) 3) else -1 := by
  have hw := fm_WD_le hB 6
  unfold fm_ep
  by_cases h : 0 < fm_WD B 6
  · rw [pk_sub (show 1 ≤ fm_WD B 6 from h), fm_wd_in (by omega) (by omega), fm_by_W hB 6 _ (by decide), fm_by_W hB 6 _ (by decide), fm_by_W hB 6 _ (by decide)]
    by_cases h2 : fm_AT B 6 (fm_WD B 6 - 1) 0 = 255
    · rw [if_pos ⟨h, h2⟩, if_pos h2]; rfl
    · rw [if_neg (fun z => h2 z.2), if_neg h2]
  · rw [show fm_WD B 6 = 0 by omega, fm_wd_neg (by decide), if_neg (fun z => absurd z.1 (by decide)), if_neg (by rw [show nI 0 = 0 from rfl, fm_by_0]; decide)]
/-- the word of a character, 0 outside bc .. ec -/
def fm_ch (B : Nat → Nat) (c : Int32) : Int32 := if ¬ c < nI (fm_HF B 2) ∧ ¬ nI (fm_HF B 3) < c then fm_W B 1 (c.toNatClampNeg - fm_HF B 2) else nI 0
theorem fm_ch_in {B : Nat → Nat} (hB : ∀ i, B i < 256) {c : Nat} (h1 : fm_HF B 2 ≤ c) (h2 : c ≤ fm_HF B 3) : fm_ch B (nI c) = fm_W B 1 (c - fm_HF B 2) := by
  have h3 := fm_HF_lt hB 3
  unfold fm_ch
  rw [nI_clamp (by omega), if_pos ⟨fun z => by have := (nI_ltI (by omega) (by omega)).mp z; omega, fun z => by have := (nI_ltI (by omega) (by omega)).mp z; omega⟩]
theorem fm_thI_ch {B : Nat → Nat} (hB : ∀ i, B i < 256) (c : Int32) : fm_thI B c = decide (fm_by (fm_ch B c) 0 ≠ 0) := by
  have h2 := fm_HF_lt hB 2
  have h3 := fm_HF_lt hB 3
  by_cases e1 : c < nI (fm_HF B 2)
  · rw [fm_thI_lt hB e1, fm_ch, if_neg (fun z => z.1 e1), show nI 0 = 0 from rfl, fm_by_0]; rfl
  · obtain ⟨n, hn, hcn, rfl⟩ := fm_ge (by omega) e1
    rw [fm_thI_n hn]
    by_cases e2 : nI (fm_HF B 3) < nI n
    · rw [fm_th_f1 ((nI_ltI (by omega) hn).mp e2), fm_ch, if_neg (fun z => z.2 e2), show nI 0 = 0 from rfl, fm_by_0]; rfl
    · have e3 : n ≤ fm_HF B 3 := Nat.le_of_not_lt (fun z => e2 ((nI_ltI (by omega) hn).mpr z))
      rw [fm_ch_in hB hcn e3, fm_by_W hB _ _ (by decide)]
      unfold fm_th
      simp [hcn, e3, Nat.pos_iff_ne_zero]
def fm_ps (B : Nat → Nat) (x : Nat) : Option Nat := (fm_so B x).map (fm_at0 B)
theorem fm_oI_eq {o : Option Nat} {a : Nat} (ha : a < 2 ^ 31) (hb : ∀ {k : Nat}, o = some k → k < 257 ∧ 257 ≤ 2 ^ 31) (h : nI a = fm_oI o) : o = some a := by
  cases o with
  | none =>
    have : nI a < 0 := by rw [h]; decide
    exact absurd this (nI_pos ha)
  | some k =>
    obtain ⟨h1, h2⟩ := hb rfl
    rw [(nI_eq ha (by omega)).mp h]
/-- a character's program, by its word -/
theorem fm_soW {B : Nat → Nat} (hB : ∀ i, B i < 256) {x : Nat} (hx : fm_th B x = true) (hne : x ≠ 256) : fm_oI (fm_so B x) = if fm_by (fm_ch B (nI x)) 0 ≠ 0 ∧ fm_by (fm_ch B (nI x)) 2 % 4 = 1 then nI (fm_by (fm_ch B (nI x)) 3) else -1 := by
  obtain ⟨h1, h2, h3⟩ := fm_th_in hx
  rw [fm_ch_in hB h1 h2, fm_by_W hB _ _ (by decide), fm_by_W hB _ _ (by decide), fm_by_W hB _ _ (by decide), fm_so, if_neg hne]
  by_cases e : fm_tag B x = 1
  · rw [if_pos e, if_pos ⟨by omega, e⟩]; rfl
  · rw [if_neg e, if_neg (fun z => e z.2)]; rfl
end
section
theorem d_FO_byteOf_0 : decode b_FO_byteOf 0 = .ok (.iload_n 0, 1) := by decide +kernel
theorem d_FO_byteOf_1 : decode b_FO_byteOf 1 = .ok (.bipush 24, 2) := by decide +kernel
theorem d_FO_byteOf_3 : decode b_FO_byteOf 3 = .ok (.bipush 8, 2) := by decide +kernel
theorem d_FO_byteOf_5 : decode b_FO_byteOf 5 = .ok (.iload_n 1, 1) := by decide +kernel
theorem d_FO_byteOf_6 : decode b_FO_byteOf 6 = .ok (.imul, 1) := by decide +kernel
theorem d_FO_byteOf_7 : decode b_FO_byteOf 7 = .ok (.isub, 1) := by decide +kernel
theorem d_FO_byteOf_8 : decode b_FO_byteOf 8 = .ok (.iushr, 1) := by decide +kernel
theorem d_FO_byteOf_9 : decode b_FO_byteOf 9 = .ok (.sipush 255, 3) := by decide +kernel
theorem d_FO_byteOf_12 : decode b_FO_byteOf 12 = .ok (.iand, 1) := by decide +kernel
theorem d_FO_byteOf_13 : decode b_FO_byteOf 13 = .ok (.ireturn, 1) := by decide +kernel
set_option maxHeartbeats 4000000 in
set_option maxRecDepth 100000 in
theorem c_FO_byteOf (l : Launch) (dC : Nat → ClassId) (dI : Nat → Nat → Nat) (x : Int32) (j : Nat) (hj : j < 4) : fm_M l (dC, dI) y_FO_byteOf w_FO_byteOf ({ frames := 0, cells := 0, slots := 0, locals := 0 }) [.int (x), .int (nI (j))] [] [] (nI (fm_by x j)) := by
  refine Met.ofW (cc := b_FO_byteOf) (maxL := 2) (ret := (some .int)) (by decide) rfl ?_
  intro pg ev s m args below meth cd s₁ BD hml hv
  obtain ⟨rfl, hP, hK⟩ := hv
  have hx := BD.exec
  have hb := BD.bytes
  have hr := BD.returns
  have hts := atoms_spec (ws := w_FO_byteOf) BD.pre
  have ht : ∀ w ∈ fm_T, w.before _ s = true := fun w h => hts w (List.mem_cons_of_mem _ h)
  have hown : s.vm.findClass R_FO = some m.cls := findClass_of_methodNamed BD.named
  have hlocks := BD.notSynchronized
  have S : CallFix pg m cd b_FO_byteOf 2 s _ w_FO_byteOf R_FO := ⟨hx, hb, hml, hown, hts⟩
  have hl := lv_entry ([.int (x), .int (nI (j))]) (n := 2) (Nat.le_of_ble_eq_true rfl)
  rw [lg_entry_eq]
  generalize (lg_sl ([.int (x), .int (nI (j))]) ++ List.replicate (2 - (lg_sl ([.int (x), .int (nI (j))])).length) Slot.unset).toArray = ls at hl ⊢
  have hl : lv_has ls 2 [(0, .int (x)), (1, .int (nI (j)))] := hl
  refine lv_iload_n hx hb d_FO_byteOf_0 rfl (lv_at hl 0 rfl) ?_
  refine lv_bipush (v := nI (24)) hx hb d_FO_byteOf_1 (by decide) ?_
  refine lv_bipush (v := nI (8)) hx hb d_FO_byteOf_3 (by decide) ?_
  refine lv_iload_n hx hb d_FO_byteOf_5 rfl (lv_at hl 1 rfl) ?_
  refine lv_imul hx hb d_FO_byteOf_6 ?_
  refine fm_tw (z := nI (8 * j)) (pk_mul _ _) ?_
  refine lv_isub hx hb d_FO_byteOf_7 ?_
  refine fm_tw (z := nI (24 - (8 * j))) (pk_sub (by omega)) ?_
  refine lv_iushr (v := nI (fm_tn x / 2 ^ (24 - 8 * j))) hx hb d_FO_byteOf_8 (fm_ush x (by omega)) ?_
  refine lv_sipush (v := nI (255)) hx hb d_FO_byteOf_9 (by decide) ?_
  refine lv_iand hx hb d_FO_byteOf_12 ?_
  refine fm_tw (z := nI (fm_by x j)) (fm_mk x (k := 8) (m := 255) (by decide)) ?_
  exact W.iret hx hb hr (fun t ht hW => ⟨_, rfl, rfl, ht⟩) (fun q hq => by cases hq) d_FO_byteOf_13
theorem d_FO_target_0 : decode b_FO_target 0 = .ok (.iload_n 0, 1) := by decide +kernel
theorem d_FO_target_1 : decode b_FO_target 1 = .ok (.ldc 59, 2) := by decide +kernel
theorem d_FO_target_3 : decode b_FO_target 3 = .ok (.iand, 1) := by decide +kernel
theorem d_FO_target_4 : decode b_FO_target 4 = .ok (.ireturn, 1) := by decide +kernel
set_option maxHeartbeats 4000000 in
set_option maxRecDepth 100000 in
theorem c_FO_target (l : Launch) (dC : Nat → ClassId) (dI : Nat → Nat → Nat) (x : Int32)  : fm_M l (dC, dI) y_FO_target w_FO_target ({ frames := 0, cells := 0, slots := 0, locals := 0 }) [.int (x)] [] [] (nI (256 * fm_by x 2 + fm_by x 3)) := by
  refine Met.ofW (cc := b_FO_target) (maxL := 1) (ret := (some .int)) (by decide) rfl ?_
  intro pg ev s m args below meth cd s₁ BD hml hv
  obtain ⟨rfl, hP, hK⟩ := hv
  have hx := BD.exec
  have hb := BD.bytes
  have hr := BD.returns
  have hts := atoms_spec (ws := w_FO_target) BD.pre
  have ht : ∀ w ∈ fm_T, w.before _ s = true := fun w h => hts w (List.mem_cons_of_mem _ h)
  have hown : s.vm.findClass R_FO = some m.cls := findClass_of_methodNamed BD.named
  have hlocks := BD.notSynchronized
  have S : CallFix pg m cd b_FO_target 1 s _ w_FO_target R_FO := ⟨hx, hb, hml, hown, hts⟩
  have hl := lv_entry ([.int (x)]) (n := 1) (Nat.le_of_ble_eq_true rfl)
  rw [lg_entry_eq]
  generalize (lg_sl ([.int (x)]) ++ List.replicate (1 - (lg_sl ([.int (x)])).length) Slot.unset).toArray = ls at hl ⊢
  have hl : lv_has ls 1 [(0, .int (x))] := hl
  refine lv_iload_n hx hb d_FO_target_0 rfl (lv_at hl 0 rfl) ?_
  refine lv_ldc (own := R_FO) (v := nI (65535)) hx hb hown (ht _ q_2_43) d_FO_target_1 ?_
  refine lv_iand hx hb d_FO_target_3 ?_
  refine fm_tw (z := nI (256 * fm_by x 2 + fm_by x 3)) (fm_by23 x) ?_
  exact W.iret hx hb hr (fun t ht hW => ⟨_, rfl, rfl, ht⟩) (fun q hq => by cases hq) d_FO_target_4
theorem d_FO_saying_0 : decode b_FO_saying 0 = .ok (.iload_n 0, 1) := by decide +kernel
theorem d_FO_saying_1 : decode b_FO_saying 1 = .ok (.ldc 59, 2) := by decide +kernel
theorem d_FO_saying_3 : decode b_FO_saying 3 = .ok (.iand, 1) := by decide +kernel
theorem d_FO_saying_4 : decode b_FO_saying 4 = .ok (.ireturn, 1) := by decide +kernel
set_option maxHeartbeats 4000000 in
set_option maxRecDepth 100000 in
theorem c_FO_saying (l : Launch) (dC : Nat → ClassId) (dI : Nat → Nat → Nat) (x : Int32)  : fm_M l (dC, dI) y_FO_saying w_FO_saying ({ frames := 0, cells := 0, slots := 0, locals := 0 }) [.int (x)] [] [] (nI (256 * fm_by x 2 + fm_by x 3)) := by
  refine Met.ofW (cc := b_FO_saying) (maxL := 1) (ret := (some .int)) (by decide) rfl ?_
  intro pg ev s m args below meth cd s₁ BD hml hv
  obtain ⟨rfl, hP, hK⟩ := hv
  have hx := BD.exec
  have hb := BD.bytes
  have hr := BD.returns
  have hts := atoms_spec (ws := w_FO_saying) BD.pre
  have ht : ∀ w ∈ fm_T, w.before _ s = true := fun w h => hts w (List.mem_cons_of_mem _ h)
  have hown : s.vm.findClass R_FO = some m.cls := findClass_of_methodNamed BD.named
  have hlocks := BD.notSynchronized
  have S : CallFix pg m cd b_FO_saying 1 s _ w_FO_saying R_FO := ⟨hx, hb, hml, hown, hts⟩
  have hl := lv_entry ([.int (x)]) (n := 1) (Nat.le_of_ble_eq_true rfl)
  rw [lg_entry_eq]
  generalize (lg_sl ([.int (x)]) ++ List.replicate (1 - (lg_sl ([.int (x)])).length) Slot.unset).toArray = ls at hl ⊢
  have hl : lv_has ls 1 [(0, .int (x))] := hl
  refine lv_iload_n hx hb d_FO_saying_0 rfl (lv_at hl 0 rfl) ?_
  refine lv_ldc (own := R_FO) (v := nI (65535)) hx hb hown (ht _ q_2_43) d_FO_saying_1 ?_
  refine lv_iand hx hb d_FO_saying_3 ?_
  refine fm_tw (z := nI (256 * fm_by x 2 + fm_by x 3)) (fm_by23 x) ?_
  exact W.iret hx hb hr (fun t ht hW => ⟨_, rfl, rfl, ht⟩) (fun q hq => by cases hq) d_FO_saying_4
theorem d_FO_widthPlace_0 : decode b_FO_widthPlace 0 = .ok (.iload_n 0, 1) := by decide +kernel
theorem d_FO_widthPlace_1 : decode b_FO_widthPlace 1 = .ok (.bipush 24, 2) := by decide +kernel
theorem d_FO_widthPlace_3 : decode b_FO_widthPlace 3 = .ok (.iushr, 1) := by decide +kernel
theorem d_FO_widthPlace_4 : decode b_FO_widthPlace 4 = .ok (.ireturn, 1) := by decide +kernel
set_option maxHeartbeats 4000000 in
set_option maxRecDepth 100000 in
theorem c_FO_widthPlace (l : Launch) (dC : Nat → ClassId) (dI : Nat → Nat → Nat) (x : Int32)  : fm_M l (dC, dI) y_FO_widthPlace w_FO_widthPlace ({ frames := 0, cells := 0, slots := 0, locals := 0 }) [.int (x)] [] [] (nI (fm_by x 0)) := by
  refine Met.ofW (cc := b_FO_widthPlace) (maxL := 1) (ret := (some .int)) (by decide) rfl ?_
  intro pg ev s m args below meth cd s₁ BD hml hv
  obtain ⟨rfl, hP, hK⟩ := hv
  have hx := BD.exec
  have hb := BD.bytes
  have hr := BD.returns
  have hts := atoms_spec (ws := w_FO_widthPlace) BD.pre
  have ht : ∀ w ∈ fm_T, w.before _ s = true := fun w h => hts w (List.mem_cons_of_mem _ h)
  have hown : s.vm.findClass R_FO = some m.cls := findClass_of_methodNamed BD.named
  have hlocks := BD.notSynchronized
  have S : CallFix pg m cd b_FO_widthPlace 1 s _ w_FO_widthPlace R_FO := ⟨hx, hb, hml, hown, hts⟩
  have hl := lv_entry ([.int (x)]) (n := 1) (Nat.le_of_ble_eq_true rfl)
  rw [lg_entry_eq]
  generalize (lg_sl ([.int (x)]) ++ List.replicate (1 - (lg_sl ([.int (x)])).length) Slot.unset).toArray = ls at hl ⊢
  have hl : lv_has ls 1 [(0, .int (x))] := hl
  refine lv_iload_n hx hb d_FO_widthPlace_0 rfl (lv_at hl 0 rfl) ?_
  refine lv_bipush (v := nI (24)) hx hb d_FO_widthPlace_1 (by decide) ?_
  refine lv_iushr (v := nI (fm_tn x / 2 ^ 24)) hx hb d_FO_widthPlace_3 (fm_ush x (by decide)) ?_
  exact W.iret hx hb hr (fun t ht hW => ⟨_, rfl, fm_by0 x, ht⟩) (fun q hq => by cases hq) d_FO_widthPlace_4
theorem d_FO_heightPlace_0 : decode b_FO_heightPlace 0 = .ok (.iload_n 0, 1) := by decide +kernel
theorem d_FO_heightPlace_1 : decode b_FO_heightPlace 1 = .ok (.bipush 20, 2) := by decide +kernel
theorem d_FO_heightPlace_3 : decode b_FO_heightPlace 3 = .ok (.iushr, 1) := by decide +kernel
theorem d_FO_heightPlace_4 : decode b_FO_heightPlace 4 = .ok (.bipush 15, 2) := by decide +kernel
theorem d_FO_heightPlace_6 : decode b_FO_heightPlace 6 = .ok (.iand, 1) := by decide +kernel
theorem d_FO_heightPlace_7 : decode b_FO_heightPlace 7 = .ok (.ireturn, 1) := by decide +kernel
set_option maxHeartbeats 4000000 in
set_option maxRecDepth 100000 in
theorem c_FO_heightPlace (l : Launch) (dC : Nat → ClassId) (dI : Nat → Nat → Nat) (x : Int32)  : fm_M l (dC, dI) y_FO_heightPlace w_FO_heightPlace ({ frames := 0, cells := 0, slots := 0, locals := 0 }) [.int (x)] [] [] (nI (fm_by x 1 / 16)) := by
  refine Met.ofW (cc := b_FO_heightPlace) (maxL := 1) (ret := (some .int)) (by decide) rfl ?_
  intro pg ev s m args below meth cd s₁ BD hml hv
  obtain ⟨rfl, hP, hK⟩ := hv
  have hx := BD.exec
  have hb := BD.bytes
  have hr := BD.returns
  have hts := atoms_spec (ws := w_FO_heightPlace) BD.pre
  have ht : ∀ w ∈ fm_T, w.before _ s = true := fun w h => hts w (List.mem_cons_of_mem _ h)
  have hown : s.vm.findClass R_FO = some m.cls := findClass_of_methodNamed BD.named
  have hlocks := BD.notSynchronized
  have S : CallFix pg m cd b_FO_heightPlace 1 s _ w_FO_heightPlace R_FO := ⟨hx, hb, hml, hown, hts⟩
  have hl := lv_entry ([.int (x)]) (n := 1) (Nat.le_of_ble_eq_true rfl)
  rw [lg_entry_eq]
  generalize (lg_sl ([.int (x)]) ++ List.replicate (1 - (lg_sl ([.int (x)])).length) Slot.unset).toArray = ls at hl ⊢
  have hl : lv_has ls 1 [(0, .int (x))] := hl
  refine lv_iload_n hx hb d_FO_heightPlace_0 rfl (lv_at hl 0 rfl) ?_
  refine lv_bipush (v := nI (20)) hx hb d_FO_heightPlace_1 (by decide) ?_
  refine lv_iushr (v := nI (fm_tn x / 2 ^ 20)) hx hb d_FO_heightPlace_3 (fm_ush x (by decide)) ?_
  refine lv_bipush (v := nI (15)) hx hb d_FO_heightPlace_4 (by decide) ?_
  refine lv_iand hx hb d_FO_heightPlace_6 ?_
  refine fm_tw (z := nI (fm_tn x / 2 ^ 20 % 2 ^ 4)) (fm_mk x (by decide)) ?_
  exact W.iret hx hb hr (fun t ht hW => ⟨_, rfl, fm_by1h x, ht⟩) (fun q hq => by cases hq) d_FO_heightPlace_7
theorem d_FO_depthPlace_0 : decode b_FO_depthPlace 0 = .ok (.iload_n 0, 1) := by decide +kernel
theorem d_FO_depthPlace_1 : decode b_FO_depthPlace 1 = .ok (.bipush 16, 2) := by decide +kernel
theorem d_FO_depthPlace_3 : decode b_FO_depthPlace 3 = .ok (.iushr, 1) := by decide +kernel
theorem d_FO_depthPlace_4 : decode b_FO_depthPlace 4 = .ok (.bipush 15, 2) := by decide +kernel
theorem d_FO_depthPlace_6 : decode b_FO_depthPlace 6 = .ok (.iand, 1) := by decide +kernel
theorem d_FO_depthPlace_7 : decode b_FO_depthPlace 7 = .ok (.ireturn, 1) := by decide +kernel
set_option maxHeartbeats 4000000 in
set_option maxRecDepth 100000 in
theorem c_FO_depthPlace (l : Launch) (dC : Nat → ClassId) (dI : Nat → Nat → Nat) (x : Int32)  : fm_M l (dC, dI) y_FO_depthPlace w_FO_depthPlace ({ frames := 0, cells := 0, slots := 0, locals := 0 }) [.int (x)] [] [] (nI (fm_by x 1 % 16)) := by
  refine Met.ofW (cc := b_FO_depthPlace) (maxL := 1) (ret := (some .int)) (by decide) rfl ?_
  intro pg ev s m args below meth cd s₁ BD hml hv
  obtain ⟨rfl, hP, hK⟩ := hv
  have hx := BD.exec
  have hb := BD.bytes
  have hr := BD.returns
  have hts := atoms_spec (ws := w_FO_depthPlace) BD.pre
  have ht : ∀ w ∈ fm_T, w.before _ s = true := fun w h => hts w (List.mem_cons_of_mem _ h)
  have hown : s.vm.findClass R_FO = some m.cls := findClass_of_methodNamed BD.named
  have hlocks := BD.notSynchronized
  have S : CallFix pg m cd b_FO_depthPlace 1 s _ w_FO_depthPlace R_FO := ⟨hx, hb, hml, hown, hts⟩
  have hl := lv_entry ([.int (x)]) (n := 1) (Nat.le_of_ble_eq_true rfl)
  rw [lg_entry_eq]
  generalize (lg_sl ([.int (x)]) ++ List.replicate (1 - (lg_sl ([.int (x)])).length) Slot.unset).toArray = ls at hl ⊢
  have hl : lv_has ls 1 [(0, .int (x))] := hl
  refine lv_iload_n hx hb d_FO_depthPlace_0 rfl (lv_at hl 0 rfl) ?_
  refine lv_bipush (v := nI (16)) hx hb d_FO_depthPlace_1 (by decide) ?_
  refine lv_iushr (v := nI (fm_tn x / 2 ^ 16)) hx hb d_FO_depthPlace_3 (fm_ush x (by decide)) ?_
  refine lv_bipush (v := nI (15)) hx hb d_FO_depthPlace_4 (by decide) ?_
  refine lv_iand hx hb d_FO_depthPlace_6 ?_
  refine fm_tw (z := nI (fm_tn x / 2 ^ 16 % 2 ^ 4)) (fm_mk x (by decide)) ?_
  exact W.iret hx hb hr (fun t ht hW => ⟨_, rfl, fm_by1l x, ht⟩) (fun q hq => by cases hq) d_FO_depthPlace_7
theorem d_FO_italicPlace_0 : decode b_FO_italicPlace 0 = .ok (.iload_n 0, 1) := by decide +kernel
theorem d_FO_italicPlace_1 : decode b_FO_italicPlace 1 = .ok (.bipush 10, 2) := by decide +kernel
theorem d_FO_italicPlace_3 : decode b_FO_italicPlace 3 = .ok (.iushr, 1) := by decide +kernel
theorem d_FO_italicPlace_4 : decode b_FO_italicPlace 4 = .ok (.bipush 63, 2) := by decide +kernel
theorem d_FO_italicPlace_6 : decode b_FO_italicPlace 6 = .ok (.iand, 1) := by decide +kernel
theorem d_FO_italicPlace_7 : decode b_FO_italicPlace 7 = .ok (.ireturn, 1) := by decide +kernel
set_option maxHeartbeats 4000000 in
set_option maxRecDepth 100000 in
theorem c_FO_italicPlace (l : Launch) (dC : Nat → ClassId) (dI : Nat → Nat → Nat) (x : Int32)  : fm_M l (dC, dI) y_FO_italicPlace w_FO_italicPlace ({ frames := 0, cells := 0, slots := 0, locals := 0 }) [.int (x)] [] [] (nI (fm_by x 2 / 4)) := by
  refine Met.ofW (cc := b_FO_italicPlace) (maxL := 1) (ret := (some .int)) (by decide) rfl ?_
  intro pg ev s m args below meth cd s₁ BD hml hv
  obtain ⟨rfl, hP, hK⟩ := hv
  have hx := BD.exec
  have hb := BD.bytes
  have hr := BD.returns
  have hts := atoms_spec (ws := w_FO_italicPlace) BD.pre
  have ht : ∀ w ∈ fm_T, w.before _ s = true := fun w h => hts w (List.mem_cons_of_mem _ h)
  have hown : s.vm.findClass R_FO = some m.cls := findClass_of_methodNamed BD.named
  have hlocks := BD.notSynchronized
  have S : CallFix pg m cd b_FO_italicPlace 1 s _ w_FO_italicPlace R_FO := ⟨hx, hb, hml, hown, hts⟩
  have hl := lv_entry ([.int (x)]) (n := 1) (Nat.le_of_ble_eq_true rfl)
  rw [lg_entry_eq]
  generalize (lg_sl ([.int (x)]) ++ List.replicate (1 - (lg_sl ([.int (x)])).length) Slot.unset).toArray = ls at hl ⊢
  have hl : lv_has ls 1 [(0, .int (x))] := hl
  refine lv_iload_n hx hb d_FO_italicPlace_0 rfl (lv_at hl 0 rfl) ?_
  refine lv_bipush (v := nI (10)) hx hb d_FO_italicPlace_1 (by decide) ?_
  refine lv_iushr (v := nI (fm_tn x / 2 ^ 10)) hx hb d_FO_italicPlace_3 (fm_ush x (by decide)) ?_
  refine lv_bipush (v := nI (63)) hx hb d_FO_italicPlace_4 (by decide) ?_
  refine lv_iand hx hb d_FO_italicPlace_6 ?_
  refine fm_tw (z := nI (fm_tn x / 2 ^ 10 % 2 ^ 6)) (fm_mk x (by decide)) ?_
  exact W.iret hx hb hr (fun t ht hW => ⟨_, rfl, fm_by2h x, ht⟩) (fun q hq => by cases hq) d_FO_italicPlace_7
theorem d_FO_tag_0 : decode b_FO_tag 0 = .ok (.iload_n 0, 1) := by decide +kernel
theorem d_FO_tag_1 : decode b_FO_tag 1 = .ok (.bipush 8, 2) := by decide +kernel
theorem d_FO_tag_3 : decode b_FO_tag 3 = .ok (.iushr, 1) := by decide +kernel
theorem d_FO_tag_4 : decode b_FO_tag 4 = .ok (.iconst 3, 1) := by decide +kernel
theorem d_FO_tag_5 : decode b_FO_tag 5 = .ok (.iand, 1) := by decide +kernel
theorem d_FO_tag_6 : decode b_FO_tag 6 = .ok (.ireturn, 1) := by decide +kernel
set_option maxHeartbeats 4000000 in
set_option maxRecDepth 100000 in
theorem c_FO_tag (l : Launch) (dC : Nat → ClassId) (dI : Nat → Nat → Nat) (x : Int32)  : fm_M l (dC, dI) y_FO_tag w_FO_tag ({ frames := 0, cells := 0, slots := 0, locals := 0 }) [.int (x)] [] [] (nI (fm_by x 2 % 4)) := by
  refine Met.ofW (cc := b_FO_tag) (maxL := 1) (ret := (some .int)) (by decide) rfl ?_
  intro pg ev s m args below meth cd s₁ BD hml hv
  obtain ⟨rfl, hP, hK⟩ := hv
  have hx := BD.exec
  have hb := BD.bytes
  have hr := BD.returns
  have hts := atoms_spec (ws := w_FO_tag) BD.pre
  have ht : ∀ w ∈ fm_T, w.before _ s = true := fun w h => hts w (List.mem_cons_of_mem _ h)
  have hown : s.vm.findClass R_FO = some m.cls := findClass_of_methodNamed BD.named
  have hlocks := BD.notSynchronized
  have S : CallFix pg m cd b_FO_tag 1 s _ w_FO_tag R_FO := ⟨hx, hb, hml, hown, hts⟩
  have hl := lv_entry ([.int (x)]) (n := 1) (Nat.le_of_ble_eq_true rfl)
  rw [lg_entry_eq]
  generalize (lg_sl ([.int (x)]) ++ List.replicate (1 - (lg_sl ([.int (x)])).length) Slot.unset).toArray = ls at hl ⊢
  have hl : lv_has ls 1 [(0, .int (x))] := hl
  refine lv_iload_n hx hb d_FO_tag_0 rfl (lv_at hl 0 rfl) ?_
  refine lv_bipush (v := nI (8)) hx hb d_FO_tag_1 (by decide) ?_
  refine lv_iushr (v := nI (fm_tn x / 2 ^ 8)) hx hb d_FO_tag_3 (fm_ush x (by decide)) ?_
  refine lv_iconst (v := nI (3)) hx hb d_FO_tag_4 (by decide) ?_
  refine lv_iand hx hb d_FO_tag_5 ?_
  refine fm_tw (z := nI (fm_tn x / 2 ^ 8 % 2 ^ 2)) (fm_mk x (by decide)) ?_
  exact W.iret hx hb hr (fun t ht hW => ⟨_, rfl, fm_by2l x, ht⟩) (fun q hq => by cases hq) d_FO_tag_6
theorem d_FO_rest_0 : decode b_FO_rest 0 = .ok (.iload_n 0, 1) := by decide +kernel
theorem d_FO_rest_1 : decode b_FO_rest 1 = .ok (.sipush 255, 3) := by decide +kernel
theorem d_FO_rest_4 : decode b_FO_rest 4 = .ok (.iand, 1) := by decide +kernel
theorem d_FO_rest_5 : decode b_FO_rest 5 = .ok (.ireturn, 1) := by decide +kernel
set_option maxHeartbeats 4000000 in
set_option maxRecDepth 100000 in
theorem c_FO_rest (l : Launch) (dC : Nat → ClassId) (dI : Nat → Nat → Nat) (x : Int32)  : fm_M l (dC, dI) y_FO_rest w_FO_rest ({ frames := 0, cells := 0, slots := 0, locals := 0 }) [.int (x)] [] [] (nI (fm_by x 3)) := by
  refine Met.ofW (cc := b_FO_rest) (maxL := 1) (ret := (some .int)) (by decide) rfl ?_
  intro pg ev s m args below meth cd s₁ BD hml hv
  obtain ⟨rfl, hP, hK⟩ := hv
  have hx := BD.exec
  have hb := BD.bytes
  have hr := BD.returns
  have hts := atoms_spec (ws := w_FO_rest) BD.pre
  have ht : ∀ w ∈ fm_T, w.before _ s = true := fun w h => hts w (List.mem_cons_of_mem _ h)
  have hown : s.vm.findClass R_FO = some m.cls := findClass_of_methodNamed BD.named
  have hlocks := BD.notSynchronized
  have S : CallFix pg m cd b_FO_rest 1 s _ w_FO_rest R_FO := ⟨hx, hb, hml, hown, hts⟩
  have hl := lv_entry ([.int (x)]) (n := 1) (Nat.le_of_ble_eq_true rfl)
  rw [lg_entry_eq]
  generalize (lg_sl ([.int (x)]) ++ List.replicate (1 - (lg_sl ([.int (x)])).length) Slot.unset).toArray = ls at hl ⊢
  have hl : lv_has ls 1 [(0, .int (x))] := hl
  refine lv_iload_n hx hb d_FO_rest_0 rfl (lv_at hl 0 rfl) ?_
  refine lv_sipush (v := nI (255)) hx hb d_FO_rest_1 (by decide) ?_
  refine lv_iand hx hb d_FO_rest_4 ?_
  refine fm_tw (z := nI (fm_by x 3)) (fm_by3 x) ?_
  exact W.iret hx hb hr (fun t ht hW => ⟨_, rfl, rfl, ht⟩) (fun q hq => by cases hq) d_FO_rest_5
theorem d_FO_startOfCharacter_0 : decode b_FO_startOfCharacter 0 = .ok (.iload_n 0, 1) := by decide +kernel
theorem d_FO_startOfCharacter_1 : decode b_FO_startOfCharacter 1 = .ok (.invokestatic 70, 3) := by decide +kernel
theorem d_FO_startOfCharacter_4 : decode b_FO_startOfCharacter 4 = .ok (.ifCond .eq 18, 3) := by decide +kernel
theorem d_FO_startOfCharacter_7 : decode b_FO_startOfCharacter 7 = .ok (.iload_n 0, 1) := by decide +kernel
theorem d_FO_startOfCharacter_8 : decode b_FO_startOfCharacter 8 = .ok (.invokestatic 107, 3) := by decide +kernel
theorem d_FO_startOfCharacter_11 : decode b_FO_startOfCharacter 11 = .ok (.iconst 1, 1) := by decide +kernel
theorem d_FO_startOfCharacter_12 : decode b_FO_startOfCharacter 12 = .ok (.if_icmp .ne 10, 3) := by decide +kernel
theorem d_FO_startOfCharacter_15 : decode b_FO_startOfCharacter 15 = .ok (.iload_n 0, 1) := by decide +kernel
theorem d_FO_startOfCharacter_16 : decode b_FO_startOfCharacter 16 = .ok (.invokestatic 110, 3) := by decide +kernel
theorem d_FO_startOfCharacter_19 : decode b_FO_startOfCharacter 19 = .ok (.goto 4, 3) := by decide +kernel
theorem d_FO_startOfCharacter_22 : decode b_FO_startOfCharacter 22 = .ok (.iconst (-1), 1) := by decide +kernel
theorem d_FO_startOfCharacter_23 : decode b_FO_startOfCharacter 23 = .ok (.ireturn, 1) := by decide +kernel
set_option maxHeartbeats 4000000 in
set_option maxRecDepth 100000 in
theorem c_FO_startOfCharacter (l : Launch) (dC : Nat → ClassId) (dI : Nat → Nat → Nat) (x : Int32)  : fm_M l (dC, dI) y_FO_startOfCharacter w_FO_startOfCharacter ({ frames := 1, cells := 0, slots := 0, locals := 20 }) [.int (x)] [] [] ((if fm_by x 0 ≠ 0 ∧ fm_by x 2 % 4 = 1 then nI (fm_by x 3) else -1)) := by
  refine Met.ofW (cc := b_FO_startOfCharacter) (maxL := 1) (ret := (some .int)) (by decide) rfl ?_
  intro pg ev s m args below meth cd s₁ BD hml hv
  obtain ⟨rfl, hP, hK⟩ := hv
  have hx := BD.exec
  have hb := BD.bytes
  have hr := BD.returns
  have hts := atoms_spec (ws := w_FO_startOfCharacter) BD.pre
  have ht : ∀ w ∈ fm_T, w.before _ s = true := fun w h => hts w (List.mem_cons_of_mem _ h)
  have hown : s.vm.findClass R_FO = some m.cls := findClass_of_methodNamed BD.named
  have hlocks := BD.notSynchronized
  have S : CallFix pg m cd b_FO_startOfCharacter 1 s _ w_FO_startOfCharacter R_FO := ⟨hx, hb, hml, hown, hts⟩
  have hl := lv_entry ([.int (x)]) (n := 1) (Nat.le_of_ble_eq_true rfl)
  rw [lg_entry_eq]
  generalize (lg_sl ([.int (x)]) ++ List.replicate (1 - (lg_sl ([.int (x)])).length) Slot.unset).toArray = ls at hl ⊢
  have hl : lv_has ls 1 [(0, .int (x))] := hl
  refine lv_iload_n hx hb d_FO_startOfCharacter_0 rfl (lv_at hl 0 rfl) ?_
  refine fm_cs S (c_FO_widthPlace l dC dI x ) rfl rfl k_FO_widthPlace q_1_157 ⟨Nat.le_of_ble_eq_true rfl, Nat.le_of_ble_eq_true rfl⟩ (hP.sub [] rfl) (hK.sub [] rfl) rfl hl.1 rfl (Nat.le_of_ble_eq_true rfl) ⟨Nat.zero_le _, Nat.zero_le _⟩ d_FO_startOfCharacter_1 ?_
  have f0_1 := fm_by_lt x 0
  refine lv_if_eq (tgt := 22) hx hb d_FO_startOfCharacter_4 (by decide) (fun c0 => ?_) (fun c0 => ?_)
  · have c_4 : fm_by x 0 = 0 := (nI_eq (a := fm_by x 0) (b := 0) (by omega) (by omega)).mp c0
    refine lv_iconst (v := ((-1))) hx hb d_FO_startOfCharacter_22 (by decide) ?_
    exact W.iret hx hb hr (fun t ht hW => ⟨_, rfl, by first | (rw [if_neg (fun z => z.1 c_4)]; done) | (rw [if_neg (fun z => c_12 z.2)]; done), ht⟩) (fun q hq => by cases hq) d_FO_startOfCharacter_23
  · have c_4 : ¬ (fm_by x 0 = 0) := fun z => c0 ((nI_eq (a := fm_by x 0) (b := 0) (by omega) (by omega)).mpr z)
    refine lv_iload_n hx hb d_FO_startOfCharacter_7 rfl (lv_at hl 0 rfl) ?_
    refine fm_cs S (c_FO_tag l dC dI x ) rfl rfl k_FO_tag q_3_29 ⟨Nat.le_of_ble_eq_true rfl, Nat.le_of_ble_eq_true rfl⟩ (hP.sub [] rfl) (hK.sub [] rfl) rfl hl.1 rfl (Nat.le_of_ble_eq_true rfl) ⟨Nat.zero_le _, Nat.zero_le _⟩ d_FO_startOfCharacter_8 ?_
    have f0_8 := fm_by_lt x 2
    refine lv_iconst (v := nI (1)) hx hb d_FO_startOfCharacter_11 (by decide) ?_
    refine lv_icmp_ne (tgt := 22) hx hb d_FO_startOfCharacter_12 (by decide) (fun c0 => ?_) (fun c0 => ?_)
    · have c_12 : ¬ (fm_by x 2 % 4 = 1) := fun z => c0 ((nI_eq (a := fm_by x 2 % 4) (b := 1) (by omega) (by omega)).mpr z)
      refine lv_iconst (v := ((-1))) hx hb d_FO_startOfCharacter_22 (by decide) ?_
      exact W.iret hx hb hr (fun t ht hW => ⟨_, rfl, by first | (rw [if_neg (fun z => z.1 c_4)]; done) | (rw [if_neg (fun z => c_12 z.2)]; done), ht⟩) (fun q hq => by cases hq) d_FO_startOfCharacter_23
    · have c_12 : fm_by x 2 % 4 = 1 := (nI_eq (a := fm_by x 2 % 4) (b := 1) (by omega) (by omega)).mp c0
      refine lv_iload_n hx hb d_FO_startOfCharacter_15 rfl (lv_at hl 0 rfl) ?_
      refine fm_cs S (c_FO_rest l dC dI x ) rfl rfl k_FO_rest q_3_30 ⟨Nat.le_of_ble_eq_true rfl, Nat.le_of_ble_eq_true rfl⟩ (hP.sub [] rfl) (hK.sub [] rfl) rfl hl.1 rfl (Nat.le_of_ble_eq_true rfl) ⟨Nat.zero_le _, Nat.zero_le _⟩ d_FO_startOfCharacter_16 ?_
      have f0_16 := fm_by_lt x 3
      refine lv_goto (tgt := 23) hx hb d_FO_startOfCharacter_19 (by decide) ?_
      exact W.iret hx hb hr (fun t ht hW => ⟨_, rfl, by rw [if_pos ⟨c_4, c_12⟩], ht⟩) (fun q hq => by cases hq) d_FO_startOfCharacter_23
theorem d_FO_number_0 : decode b_FO_number 0 = .ok (.iload_n 1, 1) := by decide +kernel
theorem d_FO_number_1 : decode b_FO_number 1 = .ok (.iconst 2, 1) := by decide +kernel
theorem d_FO_number_2 : decode b_FO_number 2 = .ok (.idiv, 1) := by decide +kernel
theorem d_FO_number_3 : decode b_FO_number 3 = .ok (.istore_n 2, 1) := by decide +kernel
theorem d_FO_number_4 : decode b_FO_number 4 = .ok (.iload_n 2, 1) := by decide +kernel
theorem d_FO_number_5 : decode b_FO_number 5 = .ok (.ifCond .lt 21, 3) := by decide +kernel
theorem d_FO_number_8 : decode b_FO_number 8 = .ok (.iload_n 2, 1) := by decide +kernel
theorem d_FO_number_9 : decode b_FO_number 9 = .ok (.aload_n 0, 1) := by decide +kernel
theorem d_FO_number_10 : decode b_FO_number 10 = .ok (.getfield 11, 3) := by decide +kernel
theorem d_FO_number_13 : decode b_FO_number 13 = .ok (.arraylength, 1) := by decide +kernel
theorem d_FO_number_14 : decode b_FO_number 14 = .ok (.if_icmp .ge 12, 3) := by decide +kernel
theorem d_FO_number_17 : decode b_FO_number 17 = .ok (.aload_n 0, 1) := by decide +kernel
theorem d_FO_number_18 : decode b_FO_number 18 = .ok (.getfield 11, 3) := by decide +kernel
theorem d_FO_number_21 : decode b_FO_number 21 = .ok (.iload_n 2, 1) := by decide +kernel
theorem d_FO_number_22 : decode b_FO_number 22 = .ok (.iaload, 1) := by decide +kernel
theorem d_FO_number_23 : decode b_FO_number 23 = .ok (.goto 4, 3) := by decide +kernel
theorem d_FO_number_26 : decode b_FO_number 26 = .ok (.iconst 0, 1) := by decide +kernel
theorem d_FO_number_27 : decode b_FO_number 27 = .ok (.istore_n 3, 1) := by decide +kernel
theorem d_FO_number_28 : decode b_FO_number 28 = .ok (.iload_n 1, 1) := by decide +kernel
theorem d_FO_number_29 : decode b_FO_number 29 = .ok (.iconst 2, 1) := by decide +kernel
theorem d_FO_number_30 : decode b_FO_number 30 = .ok (.irem, 1) := by decide +kernel
theorem d_FO_number_31 : decode b_FO_number 31 = .ok (.ifCond .ne 10, 3) := by decide +kernel
theorem d_FO_number_34 : decode b_FO_number 34 = .ok (.iload_n 3, 1) := by decide +kernel
theorem d_FO_number_35 : decode b_FO_number 35 = .ok (.bipush 16, 2) := by decide +kernel
theorem d_FO_number_37 : decode b_FO_number 37 = .ok (.iushr, 1) := by decide +kernel
theorem d_FO_number_38 : decode b_FO_number 38 = .ok (.goto 7, 3) := by decide +kernel
theorem d_FO_number_41 : decode b_FO_number 41 = .ok (.iload_n 3, 1) := by decide +kernel
theorem d_FO_number_42 : decode b_FO_number 42 = .ok (.ldc 59, 2) := by decide +kernel
theorem d_FO_number_44 : decode b_FO_number 44 = .ok (.iand, 1) := by decide +kernel
theorem d_FO_number_45 : decode b_FO_number 45 = .ok (.ireturn, 1) := by decide +kernel
set_option maxHeartbeats 4000000 in
set_option maxRecDepth 100000 in
theorem c_FO_number (l : Launch) (dC : Nat → ClassId) (dI : Nat → Nat → Nat) (o : Nat) (wa : Nat) (sa : Nat) (la : Nat) (bc : Int32) (ec : Int32) (sz : Int32) (sc : Int32) (hv : Int32) (cI : ClassId) (w : Nat → Int32) (st : Nat → Int32) (ln : Nat → Int32) (i : Nat) (hi : i < 12) : fm_M l (dC, dI) y_FO_number w_FO_number ({ frames := 0, cells := 0, slots := 0, locals := 0 }) [.ref o, .int (nI (i))] [(o, .inr (1, [.ref wa, .ref sa, .ref la, .int (bc), .int (ec), .int (sz), .int (sc), .int (hv)])), (wa, .inl (cI, 2048, .inl (w))), (sa, .inl (cI, 10, .inl (st))), (la, .inl (cI, 10, .inl (ln)))] [(cI, .int)] (nI (fm_nb w i)) := by
  refine Met.ofW (cc := b_FO_number) (maxL := 4) (ret := (some .int)) (by decide) rfl ?_
  intro pg ev s m args below meth cd s₁ BD hml hv
  obtain ⟨rfl, hP, hK⟩ := hv
  have hx := BD.exec
  have hb := BD.bytes
  have hr := BD.returns
  have hts := atoms_spec (ws := w_FO_number) BD.pre
  have ht : ∀ w ∈ fm_T, w.before _ s = true := fun w h => hts w (List.mem_cons_of_mem _ h)
  have hown : s.vm.findClass R_FO = some m.cls := findClass_of_methodNamed BD.named
  have hlocks := BD.notSynchronized
  have S : CallFix pg m cd b_FO_number 4 s _ w_FO_number R_FO := ⟨hx, hb, hml, hown, hts⟩
  have hl := lv_entry ([.ref o, .int (nI (i))]) (n := 4) (Nat.le_of_ble_eq_true rfl)
  rw [lg_entry_eq]
  generalize (lg_sl ([.ref o, .int (nI (i))]) ++ List.replicate (4 - (lg_sl ([.ref o, .int (nI (i))])).length) Slot.unset).toArray = ls at hl ⊢
  have hl : lv_has ls 4 [(0, .ref o), (1, .int (nI (i)))] := hl
  refine lv_iload_n hx hb d_FO_number_0 rfl (lv_at hl 1 rfl) ?_
  refine lv_iconst (v := nI (2)) hx hb d_FO_number_1 (by decide) ?_
  refine lv_idiv hx hb d_FO_number_2 (by decide) ?_
  refine fm_tw (z := nI (i / 2)) (pk_div (by omega) (by omega) (by omega)) ?_
  refine lv_istore_n (lv' := [(2, .int (nI (i / 2))), (0, .ref o), (1, .int (nI (i)))]) hx hb d_FO_number_3 rfl hl (by decide) rfl (fun ls hl => ?_)
  refine lv_iload_n hx hb d_FO_number_4 rfl (lv_at hl 0 rfl) ?_
  refine lv_if_lt (tgt := 26) hx hb d_FO_number_5 (by decide) (fun c0 => ?_) (fun c0 => ?_)
  · have c_5 : i / 2 < 0 := (nI_ltI (a := i / 2) (b := 0) (by omega) (by omega)).mp c0
    exact absurd c_5 (by omega)
  · have c_5 : ¬ (i / 2 < 0) := fun z => c0 ((nI_ltI (a := i / 2) (b := 0) (by omega) (by omega)).mpr z)
    refine lv_iload_n hx hb d_FO_number_8 rfl (lv_at hl 0 rfl) ?_
    refine lv_aload_n hx hb d_FO_number_9 rfl (lv_at hl 1 rfl) ?_
    refine va_get (D := (dC, dI)) (ci := 1) (v := .ref wa) (C := R_FO) (T := F_FO) (N := 8) hx hb ht i_FO hown hK hP 0 rfl rfl 0 (by decide) (ht _ q_1_69) (fun _ h9 => h9) rfl d_FO_number_10 ?_
    refine va_alen hx hb hK hP 1 0 rfl rfl (v := nI (2048)) rfl d_FO_number_13 ?_
    refine lv_icmp_ge (tgt := 26) hx hb d_FO_number_14 (by decide) (fun c0 => ?_) (fun c0 => ?_)
    · have c_14 : 2048 ≤ i / 2 := (nI_leI (a := 2048) (b := i / 2) (by omega) (by omega)).mp c0
      exact absurd c_14 (by omega)
    · have c_14 : ¬ (2048 ≤ i / 2) := fun z => c0 ((nI_leI (a := 2048) (b := i / 2) (by omega) (by omega)).mpr z)
      refine lv_aload_n hx hb d_FO_number_17 rfl (lv_at hl 1 rfl) ?_
      refine va_get (D := (dC, dI)) (ci := 1) (v := .ref wa) (C := R_FO) (T := F_FO) (N := 8) hx hb ht i_FO hown hK hP 0 rfl rfl 0 (by decide) (ht _ q_1_69) (fun _ h9 => h9) rfl d_FO_number_18 ?_
      refine lv_iload_n hx hb d_FO_number_21 rfl (lv_at hl 0 rfl) ?_
      refine va_iald hx hb hK hP 1 0 rfl rfl (vp_in_nI (by omega) (by omega)) d_FO_number_22 ?_
      refine fm_tw (z := w (i / 2)) (by rw [nI_clamp (by omega)]) ?_
      refine lv_goto (tgt := 27) hx hb d_FO_number_23 (by decide) ?_
      refine lv_istore_n (lv' := [(3, .int (w (i / 2))), (2, .int (nI (i / 2))), (0, .ref o), (1, .int (nI (i)))]) hx hb d_FO_number_27 rfl hl (by decide) rfl (fun ls hl => ?_)
      refine lv_iload_n hx hb d_FO_number_28 rfl (lv_at hl 3 rfl) ?_
      refine lv_iconst (v := nI (2)) hx hb d_FO_number_29 (by decide) ?_
      refine lv_irem hx hb d_FO_number_30 (by decide) ?_
      refine fm_tw (z := nI (i % 2)) (pk_rem (by omega) (by omega) (by omega)) ?_
      refine lv_if_ne (tgt := 41) hx hb d_FO_number_31 (by decide) (fun c0 => ?_) (fun c0 => ?_)
      · have c_31 : ¬ (i % 2 = 0) := fun z => c0 ((nI_eq (a := i % 2) (b := 0) (by omega) (by omega)).mpr z)
        refine lv_iload_n hx hb d_FO_number_41 rfl (lv_at hl 0 rfl) ?_
        refine lv_ldc (own := R_FO) (v := nI (65535)) hx hb hown (ht _ q_2_43) d_FO_number_42 ?_
        refine lv_iand hx hb d_FO_number_44 ?_
        refine fm_tw (z := nI (fm_tn (w (i / 2)) % 2 ^ 16)) (pk_and _ 16 (by decide)) ?_
        exact W.iret hx hb hr (fun t ht hW => ⟨_, rfl, by first | (rw [fm_nb, if_pos c_31]; done) | (rw [fm_nb, if_neg c_31]; done), ht⟩) (fun q hq => by cases hq) d_FO_number_45
      · have c_31 : i % 2 = 0 := (nI_eq (a := i % 2) (b := 0) (by omega) (by omega)).mp c0
        refine lv_iload_n hx hb d_FO_number_34 rfl (lv_at hl 0 rfl) ?_
        refine lv_bipush (v := nI (16)) hx hb d_FO_number_35 (by decide) ?_
        refine lv_iushr (v := nI (fm_tn (w (i / 2)) / 2 ^ 16)) hx hb d_FO_number_37 (fm_ush _ (by decide)) ?_
        refine lv_goto (tgt := 45) hx hb d_FO_number_38 (by decide) ?_
        exact W.iret hx hb hr (fun t ht hW => ⟨_, rfl, by first | (rw [fm_nb, if_pos c_31]; done) | (rw [fm_nb, if_neg c_31]; done), ht⟩) (fun q hq => by cases hq) d_FO_number_45
theorem d_FO_lengthOf_0 : decode b_FO_lengthOf 0 = .ok (.iload_n 1, 1) := by decide +kernel
theorem d_FO_lengthOf_1 : decode b_FO_lengthOf 1 = .ok (.ifCond .lt 18, 3) := by decide +kernel
theorem d_FO_lengthOf_4 : decode b_FO_lengthOf 4 = .ok (.iload_n 1, 1) := by decide +kernel
theorem d_FO_lengthOf_5 : decode b_FO_lengthOf 5 = .ok (.bipush 10, 2) := by decide +kernel
theorem d_FO_lengthOf_7 : decode b_FO_lengthOf 7 = .ok (.if_icmp .ge 12, 3) := by decide +kernel
theorem d_FO_lengthOf_10 : decode b_FO_lengthOf 10 = .ok (.aload_n 0, 1) := by decide +kernel
theorem d_FO_lengthOf_11 : decode b_FO_lengthOf 11 = .ok (.getfield 20, 3) := by decide +kernel
theorem d_FO_lengthOf_14 : decode b_FO_lengthOf 14 = .ok (.iload_n 1, 1) := by decide +kernel
theorem d_FO_lengthOf_15 : decode b_FO_lengthOf 15 = .ok (.iaload, 1) := by decide +kernel
theorem d_FO_lengthOf_16 : decode b_FO_lengthOf 16 = .ok (.goto 4, 3) := by decide +kernel
theorem d_FO_lengthOf_19 : decode b_FO_lengthOf 19 = .ok (.iconst 0, 1) := by decide +kernel
theorem d_FO_lengthOf_20 : decode b_FO_lengthOf 20 = .ok (.ireturn, 1) := by decide +kernel
set_option maxHeartbeats 4000000 in
set_option maxRecDepth 100000 in
theorem c_FO_lengthOf (l : Launch) (dC : Nat → ClassId) (dI : Nat → Nat → Nat) (o : Nat) (wa : Nat) (sa : Nat) (la : Nat) (bc : Int32) (ec : Int32) (sz : Int32) (sc : Int32) (hv : Int32) (cI : ClassId) (w : Nat → Int32) (st : Nat → Int32) (ln : Nat → Int32) (p : Nat) (hp : p < 10) : fm_M l (dC, dI) y_FO_lengthOf w_FO_lengthOf ({ frames := 0, cells := 0, slots := 0, locals := 0 }) [.ref o, .int (nI (p))] [(o, .inr (1, [.ref wa, .ref sa, .ref la, .int (bc), .int (ec), .int (sz), .int (sc), .int (hv)])), (wa, .inl (cI, 2048, .inl (w))), (sa, .inl (cI, 10, .inl (st))), (la, .inl (cI, 10, .inl (ln)))] [(cI, .int)] ((ln p)) := by
  refine Met.ofW (cc := b_FO_lengthOf) (maxL := 2) (ret := (some .int)) (by decide) rfl ?_
  intro pg ev s m args below meth cd s₁ BD hml hv
  obtain ⟨rfl, hP, hK⟩ := hv
  have hx := BD.exec
  have hb := BD.bytes
  have hr := BD.returns
  have hts := atoms_spec (ws := w_FO_lengthOf) BD.pre
  have ht : ∀ w ∈ fm_T, w.before _ s = true := fun w h => hts w (List.mem_cons_of_mem _ h)
  have hown : s.vm.findClass R_FO = some m.cls := findClass_of_methodNamed BD.named
  have hlocks := BD.notSynchronized
  have S : CallFix pg m cd b_FO_lengthOf 2 s _ w_FO_lengthOf R_FO := ⟨hx, hb, hml, hown, hts⟩
  have hl := lv_entry ([.ref o, .int (nI (p))]) (n := 2) (Nat.le_of_ble_eq_true rfl)
  rw [lg_entry_eq]
  generalize (lg_sl ([.ref o, .int (nI (p))]) ++ List.replicate (2 - (lg_sl ([.ref o, .int (nI (p))])).length) Slot.unset).toArray = ls at hl ⊢
  have hl : lv_has ls 2 [(0, .ref o), (1, .int (nI (p)))] := hl
  refine lv_iload_n hx hb d_FO_lengthOf_0 rfl (lv_at hl 1 rfl) ?_
  refine lv_if_lt (tgt := 19) hx hb d_FO_lengthOf_1 (by decide) (fun c0 => ?_) (fun c0 => ?_)
  · have c_1 : p < 0 := (nI_ltI (a := p) (b := 0) (by omega) (by omega)).mp c0
    exact absurd c_1 (by omega)
  · have c_1 : ¬ (p < 0) := fun z => c0 ((nI_ltI (a := p) (b := 0) (by omega) (by omega)).mpr z)
    refine lv_iload_n hx hb d_FO_lengthOf_4 rfl (lv_at hl 1 rfl) ?_
    refine lv_bipush (v := nI (10)) hx hb d_FO_lengthOf_5 (by decide) ?_
    refine lv_icmp_ge (tgt := 19) hx hb d_FO_lengthOf_7 (by decide) (fun c0 => ?_) (fun c0 => ?_)
    · have c_7 : 10 ≤ p := (nI_leI (a := 10) (b := p) (by omega) (by omega)).mp c0
      exact absurd c_7 (by omega)
    · have c_7 : ¬ (10 ≤ p) := fun z => c0 ((nI_leI (a := 10) (b := p) (by omega) (by omega)).mpr z)
      refine lv_aload_n hx hb d_FO_lengthOf_10 rfl (lv_at hl 0 rfl) ?_
      refine va_get (D := (dC, dI)) (ci := 1) (v := .ref la) (C := R_FO) (T := F_FO) (N := 8) hx hb ht i_FO hown hK hP 0 rfl rfl 2 (by decide) (ht _ q_1_71) (fun _ h9 => h9) rfl d_FO_lengthOf_11 ?_
      refine lv_iload_n hx hb d_FO_lengthOf_14 rfl (lv_at hl 1 rfl) ?_
      refine va_iald hx hb hK hP 3 0 rfl rfl (vp_in_nI (by omega) (by omega)) d_FO_lengthOf_15 ?_
      refine fm_tw (z := ln (p)) (by rw [nI_clamp (by omega)]) ?_
      refine lv_goto (tgt := 20) hx hb d_FO_lengthOf_16 (by decide) ?_
      exact W.iret hx hb hr (fun t ht hW => ⟨_, rfl, rfl, ht⟩) (fun q hq => by cases hq) d_FO_lengthOf_20
theorem c_FO_lengthOfN (l : Launch) (dC : Nat → ClassId) (dI : Nat → Nat → Nat) (o : Nat) (wa : Nat) (sa : Nat) (la : Nat) (sz : Int32) (sc : Int32) (hv : Int32) (cI : ClassId) (B : Nat → Nat) (w : Nat → Int32) (st : Nat → Int32) (ln : Nat → Int32) (p : Nat) (hF : fm_FO B w st ln) (hp : p < 10) : fm_M l (dC, dI) y_FO_lengthOf w_FO_lengthOf ({ frames := 0, cells := 0, slots := 0, locals := 0 }) [.ref o, .int (nI (p))] [(o, .inr (1, [.ref wa, .ref sa, .ref la, .int (nI (fm_HF B 2)), .int (nI (fm_HF B 3)), .int (sz), .int (sc), .int (hv)])), (wa, .inl (cI, 2048, .inl (w))), (sa, .inl (cI, 10, .inl (st))), (la, .inl (cI, 10, .inl (ln)))] [(cI, .int)] (nI (fm_WD B p)) := by
  rw [← hF.2.2.2 p hp]
  exact c_FO_lengthOf l dC dI o wa sa la _ _ sz sc hv cI w st ln p hp
theorem d_FO_word_0 : decode b_FO_word 0 = .ok (.iload_n 1, 1) := by decide +kernel
theorem d_FO_word_1 : decode b_FO_word 1 = .ok (.ifCond .lt 23, 3) := by decide +kernel
theorem d_FO_word_4 : decode b_FO_word 4 = .ok (.iload_n 1, 1) := by decide +kernel
theorem d_FO_word_5 : decode b_FO_word 5 = .ok (.bipush 10, 2) := by decide +kernel
theorem d_FO_word_7 : decode b_FO_word 7 = .ok (.if_icmp .ge 17, 3) := by decide +kernel
theorem d_FO_word_10 : decode b_FO_word 10 = .ok (.iload_n 2, 1) := by decide +kernel
theorem d_FO_word_11 : decode b_FO_word 11 = .ok (.ifCond .lt 13, 3) := by decide +kernel
theorem d_FO_word_14 : decode b_FO_word 14 = .ok (.iload_n 2, 1) := by decide +kernel
theorem d_FO_word_15 : decode b_FO_word 15 = .ok (.aload_n 0, 1) := by decide +kernel
theorem d_FO_word_16 : decode b_FO_word 16 = .ok (.getfield 20, 3) := by decide +kernel
theorem d_FO_word_19 : decode b_FO_word 19 = .ok (.iload_n 1, 1) := by decide +kernel
theorem d_FO_word_20 : decode b_FO_word 20 = .ok (.iaload, 1) := by decide +kernel
theorem d_FO_word_21 : decode b_FO_word 21 = .ok (.if_icmp .lt 5, 3) := by decide +kernel
theorem d_FO_word_24 : decode b_FO_word 24 = .ok (.iconst 0, 1) := by decide +kernel
theorem d_FO_word_25 : decode b_FO_word 25 = .ok (.ireturn, 1) := by decide +kernel
theorem d_FO_word_26 : decode b_FO_word 26 = .ok (.aload_n 0, 1) := by decide +kernel
theorem d_FO_word_27 : decode b_FO_word 27 = .ok (.getfield 17, 3) := by decide +kernel
theorem d_FO_word_30 : decode b_FO_word 30 = .ok (.iload_n 1, 1) := by decide +kernel
theorem d_FO_word_31 : decode b_FO_word 31 = .ok (.iaload, 1) := by decide +kernel
theorem d_FO_word_32 : decode b_FO_word 32 = .ok (.iload_n 2, 1) := by decide +kernel
theorem d_FO_word_33 : decode b_FO_word 33 = .ok (.iadd, 1) := by decide +kernel
theorem d_FO_word_34 : decode b_FO_word 34 = .ok (.istore_n 3, 1) := by decide +kernel
theorem d_FO_word_35 : decode b_FO_word 35 = .ok (.iload_n 3, 1) := by decide +kernel
theorem d_FO_word_36 : decode b_FO_word 36 = .ok (.ifCond .lt 21, 3) := by decide +kernel
theorem d_FO_word_39 : decode b_FO_word 39 = .ok (.iload_n 3, 1) := by decide +kernel
theorem d_FO_word_40 : decode b_FO_word 40 = .ok (.aload_n 0, 1) := by decide +kernel
theorem d_FO_word_41 : decode b_FO_word 41 = .ok (.getfield 11, 3) := by decide +kernel
theorem d_FO_word_44 : decode b_FO_word 44 = .ok (.arraylength, 1) := by decide +kernel
theorem d_FO_word_45 : decode b_FO_word 45 = .ok (.if_icmp .ge 12, 3) := by decide +kernel
theorem d_FO_word_48 : decode b_FO_word 48 = .ok (.aload_n 0, 1) := by decide +kernel
theorem d_FO_word_49 : decode b_FO_word 49 = .ok (.getfield 11, 3) := by decide +kernel
theorem d_FO_word_52 : decode b_FO_word 52 = .ok (.iload_n 3, 1) := by decide +kernel
theorem d_FO_word_53 : decode b_FO_word 53 = .ok (.iaload, 1) := by decide +kernel
theorem d_FO_word_54 : decode b_FO_word 54 = .ok (.goto 4, 3) := by decide +kernel
theorem d_FO_word_57 : decode b_FO_word 57 = .ok (.iconst 0, 1) := by decide +kernel
theorem d_FO_word_58 : decode b_FO_word 58 = .ok (.ireturn, 1) := by decide +kernel
set_option maxHeartbeats 4000000 in
set_option maxRecDepth 100000 in
theorem c_FO_word (l : Launch) (dC : Nat → ClassId) (dI : Nat → Nat → Nat) (o : Nat) (wa : Nat) (sa : Nat) (la : Nat) (sz : Int32) (sc : Int32) (hv : Int32) (cI : ClassId) (B : Nat → Nat) (w : Nat → Int32) (st : Nat → Int32) (ln : Nat → Int32) (p : Nat) (x : Int32) (hF : fm_FO B w st ln) (hp : p < 10) : fm_M l (dC, dI) y_FO_word w_FO_word ({ frames := 0, cells := 0, slots := 0, locals := 0 }) [.ref o, .int (nI (p)), .int (x)] [(o, .inr (1, [.ref wa, .ref sa, .ref la, .int (nI (fm_HF B 2)), .int (nI (fm_HF B 3)), .int (sz), .int (sc), .int (hv)])), (wa, .inl (cI, 2048, .inl (w))), (sa, .inl (cI, 10, .inl (st))), (la, .inl (cI, 10, .inl (ln)))] [(cI, .int)] ((fm_wd B p x)) := by
  refine Met.ofW (cc := b_FO_word) (maxL := 4) (ret := (some .int)) (by decide) rfl ?_
  intro pg ev s m args below meth cd s₁ BD hml hv
  obtain ⟨rfl, hP, hK⟩ := hv
  have hx := BD.exec
  have hb := BD.bytes
  have hr := BD.returns
  have hts := atoms_spec (ws := w_FO_word) BD.pre
  have ht : ∀ w ∈ fm_T, w.before _ s = true := fun w h => hts w (List.mem_cons_of_mem _ h)
  have hown : s.vm.findClass R_FO = some m.cls := findClass_of_methodNamed BD.named
  have hlocks := BD.notSynchronized
  have S : CallFix pg m cd b_FO_word 4 s _ w_FO_word R_FO := ⟨hx, hb, hml, hown, hts⟩
  have hl := lv_entry ([.ref o, .int (nI (p)), .int (x)]) (n := 4) (Nat.le_of_ble_eq_true rfl)
  rw [lg_entry_eq]
  generalize (lg_sl ([.ref o, .int (nI (p)), .int (x)]) ++ List.replicate (4 - (lg_sl ([.ref o, .int (nI (p)), .int (x)])).length) Slot.unset).toArray = ls at hl ⊢
  have hl : lv_has ls 4 [(0, .ref o), (1, .int (nI (p))), (2, .int (x))] := hl
  have hB : ∀ i, B i < 256 := hF.1.1
  obtain ⟨hL, hFw, hFs, hFl⟩ := id hF
  obtain ⟨-, hq, h3, h10⟩ := id hL
  have hwd := fm_WD_le hB p
  have hst := fm_ST_le hB p
  refine lv_iload_n hx hb d_FO_word_0 rfl (lv_at hl 1 rfl) ?_
  refine lv_if_lt (tgt := 24) hx hb d_FO_word_1 (by decide) (fun c0 => ?_) (fun c0 => ?_)
  · have c_1 : p < 0 := (nI_ltI (a := p) (b := 0) (by omega) (by omega)).mp c0
    exact absurd c_1 (by omega)
  · have c_1 : ¬ (p < 0) := fun z => c0 ((nI_ltI (a := p) (b := 0) (by omega) (by omega)).mpr z)
    refine lv_iload_n hx hb d_FO_word_4 rfl (lv_at hl 1 rfl) ?_
    refine lv_bipush (v := nI (10)) hx hb d_FO_word_5 (by decide) ?_
    refine lv_icmp_ge (tgt := 24) hx hb d_FO_word_7 (by decide) (fun c0 => ?_) (fun c0 => ?_)
    · have c_7 : 10 ≤ p := (nI_leI (a := 10) (b := p) (by omega) (by omega)).mp c0
      exact absurd c_7 (by omega)
    · have c_7 : ¬ (10 ≤ p) := fun z => c0 ((nI_leI (a := 10) (b := p) (by omega) (by omega)).mpr z)
      refine lv_iload_n hx hb d_FO_word_10 rfl (lv_at hl 2 rfl) ?_
      refine lv_if_lt (tgt := 24) hx hb d_FO_word_11 (by decide) (fun c0 => ?_) (fun c0 => ?_)
      · have c_11 := c0
        refine lv_iconst (v := nI (0)) hx hb d_FO_word_24 (by decide) ?_
        exact W.iret hx hb hr (fun t ht hW => ⟨_, rfl, by first | (rw [fm_wd_neg c_11]; done) | (rw [fm_wd_out hk31 c_21]; done), ht⟩) (fun q hq => by cases hq) d_FO_word_25
      · have c_11 := c0
        obtain ⟨k, hk31, rfl⟩ := nI_of c_11
        refine lv_iload_n hx hb d_FO_word_14 rfl (lv_at hl 2 rfl) ?_
        refine lv_aload_n hx hb d_FO_word_15 rfl (lv_at hl 0 rfl) ?_
        refine va_get (D := (dC, dI)) (ci := 1) (v := .ref la) (C := R_FO) (T := F_FO) (N := 8) hx hb ht i_FO hown hK hP 0 rfl rfl 2 (by decide) (ht _ q_1_71) (fun _ h9 => h9) rfl d_FO_word_16 ?_
        refine lv_iload_n hx hb d_FO_word_19 rfl (lv_at hl 1 rfl) ?_
        refine va_iald hx hb hK hP 3 0 rfl rfl (vp_in_nI (by omega) (by omega)) d_FO_word_20 ?_
        refine fm_tw (z := ln (p)) (by rw [nI_clamp (by omega)]) ?_
        refine fm_tw (z := nI (fm_WD B p)) (hFl p hp) ?_
        refine lv_icmp_lt (tgt := 26) hx hb d_FO_word_21 (by decide) (fun c0 => ?_) (fun c0 => ?_)
        · have c_21 : k < fm_WD B p := (nI_ltI (a := k) (b := fm_WD B p) (by omega) (by omega)).mp c0
          have hpin := fm_pin hL hp c_21
          have hpin2 := fm_in (B := B) c_21 hp
          refine lv_aload_n hx hb d_FO_word_26 rfl (lv_at hl 0 rfl) ?_
          refine va_get (D := (dC, dI)) (ci := 1) (v := .ref sa) (C := R_FO) (T := F_FO) (N := 8) hx hb ht i_FO hown hK hP 0 rfl rfl 1 (by decide) (ht _ q_1_70) (fun _ h9 => h9) rfl d_FO_word_27 ?_
          refine lv_iload_n hx hb d_FO_word_30 rfl (lv_at hl 1 rfl) ?_
          refine va_iald hx hb hK hP 2 0 rfl rfl (vp_in_nI (by omega) (by omega)) d_FO_word_31 ?_
          refine fm_tw (z := st (p)) (by rw [nI_clamp (by omega)]) ?_
          refine fm_tw (z := nI (fm_ST B p)) (hFs p hp) ?_
          refine lv_iload_n hx hb d_FO_word_32 rfl (lv_at hl 2 rfl) ?_
          refine lv_iadd hx hb d_FO_word_33 ?_
          refine fm_tw (z := nI (fm_ST B p + k)) (nI_add _ _) ?_
          refine lv_istore_n (lv' := [(3, .int (nI (fm_ST B p + k))), (0, .ref o), (1, .int (nI (p))), (2, .int (nI (k)))]) hx hb d_FO_word_34 rfl hl (by decide) rfl (fun ls hl => ?_)
          refine lv_iload_n hx hb d_FO_word_35 rfl (lv_at hl 0 rfl) ?_
          refine lv_if_lt (tgt := 57) hx hb d_FO_word_36 (by decide) (fun c0 => ?_) (fun c0 => ?_)
          · have c_36 : fm_ST B p + k < 0 := (nI_ltI (a := fm_ST B p + k) (b := 0) (by omega) (by omega)).mp c0
            exact absurd c_36 (by omega)
          · have c_36 : ¬ (fm_ST B p + k < 0) := fun z => c0 ((nI_ltI (a := fm_ST B p + k) (b := 0) (by omega) (by omega)).mpr z)
            refine lv_iload_n hx hb d_FO_word_39 rfl (lv_at hl 0 rfl) ?_
            refine lv_aload_n hx hb d_FO_word_40 rfl (lv_at hl 1 rfl) ?_
            refine va_get (D := (dC, dI)) (ci := 1) (v := .ref wa) (C := R_FO) (T := F_FO) (N := 8) hx hb ht i_FO hown hK hP 0 rfl rfl 0 (by decide) (ht _ q_1_69) (fun _ h9 => h9) rfl d_FO_word_41 ?_
            refine va_alen hx hb hK hP 1 0 rfl rfl (v := nI (2048)) rfl d_FO_word_44 ?_
            refine lv_icmp_ge (tgt := 57) hx hb d_FO_word_45 (by decide) (fun c0 => ?_) (fun c0 => ?_)
            · have c_45 : 2048 ≤ fm_ST B p + k := (nI_leI (a := 2048) (b := fm_ST B p + k) (by omega) (by omega)).mp c0
              exact absurd c_45 (by omega)
            · have c_45 : ¬ (2048 ≤ fm_ST B p + k) := fun z => c0 ((nI_leI (a := 2048) (b := fm_ST B p + k) (by omega) (by omega)).mpr z)
              refine lv_aload_n hx hb d_FO_word_48 rfl (lv_at hl 1 rfl) ?_
              refine va_get (D := (dC, dI)) (ci := 1) (v := .ref wa) (C := R_FO) (T := F_FO) (N := 8) hx hb ht i_FO hown hK hP 0 rfl rfl 0 (by decide) (ht _ q_1_69) (fun _ h9 => h9) rfl d_FO_word_49 ?_
              refine lv_iload_n hx hb d_FO_word_52 rfl (lv_at hl 0 rfl) ?_
              refine va_iald hx hb hK hP 1 0 rfl rfl (vp_in_nI (by omega) (by omega)) d_FO_word_53 ?_
              refine fm_tw (z := w (fm_ST B p + k)) (by rw [nI_clamp (by omega)]) ?_
              refine lv_goto (tgt := 58) hx hb d_FO_word_54 (by decide) ?_
              exact W.iret hx hb hr (fun t ht hW => ⟨_, rfl, by rw [fm_wd_in hk31 c_21, hFw _ hpin2]; rfl, ht⟩) (fun q hq => by cases hq) d_FO_word_58
        · have c_21 : ¬ (k < fm_WD B p) := fun z => c0 ((nI_ltI (a := k) (b := fm_WD B p) (by omega) (by omega)).mpr z)
          refine lv_iconst (v := nI (0)) hx hb d_FO_word_24 (by decide) ?_
          exact W.iret hx hb hr (fun t ht hW => ⟨_, rfl, by first | (rw [fm_wd_neg c_11]; done) | (rw [fm_wd_out hk31 c_21]; done), ht⟩) (fun q hq => by cases hq) d_FO_word_25
theorem c_FO_wordN (l : Launch) (dC : Nat → ClassId) (dI : Nat → Nat → Nat) (o : Nat) (wa : Nat) (sa : Nat) (la : Nat) (sz : Int32) (sc : Int32) (hv : Int32) (cI : ClassId) (B : Nat → Nat) (w : Nat → Int32) (st : Nat → Int32) (ln : Nat → Int32) (p : Nat) (k : Nat) (hF : fm_FO B w st ln) (hp : p < 10) (hk : k < fm_WD B p) : fm_M l (dC, dI) y_FO_word w_FO_word ({ frames := 0, cells := 0, slots := 0, locals := 0 }) [.ref o, .int (nI (p)), .int (nI (k))] [(o, .inr (1, [.ref wa, .ref sa, .ref la, .int (nI (fm_HF B 2)), .int (nI (fm_HF B 3)), .int (sz), .int (sc), .int (hv)])), (wa, .inl (cI, 2048, .inl (w))), (sa, .inl (cI, 10, .inl (st))), (la, .inl (cI, 10, .inl (ln)))] [(cI, .int)] ((fm_W B p k)) := by
  have hwd := fm_WD_le hF.1.1 p
  rw [← fm_wd_in (by omega) hk]
  exact c_FO_word l dC dI o wa sa la sz sc hv cI B w st ln p (nI k) hF hp
theorem d_FO_designSize_0 : decode b_FO_designSize 0 = .ok (.aload_n 0, 1) := by decide +kernel
theorem d_FO_designSize_1 : decode b_FO_designSize 1 = .ok (.iconst 0, 1) := by decide +kernel
theorem d_FO_designSize_2 : decode b_FO_designSize 2 = .ok (.iconst 1, 1) := by decide +kernel
theorem d_FO_designSize_3 : decode b_FO_designSize 3 = .ok (.invokevirtual 60, 3) := by decide +kernel
theorem d_FO_designSize_6 : decode b_FO_designSize 6 = .ok (.iconst 4, 1) := by decide +kernel
theorem d_FO_designSize_7 : decode b_FO_designSize 7 = .ok (.ishr, 1) := by decide +kernel
theorem d_FO_designSize_8 : decode b_FO_designSize 8 = .ok (.ireturn, 1) := by decide +kernel
set_option maxHeartbeats 4000000 in
set_option maxRecDepth 100000 in
theorem c_FO_designSize (l : Launch) (dC : Nat → ClassId) (dI : Nat → Nat → Nat) (o : Nat) (wa : Nat) (sa : Nat) (la : Nat) (sz : Int32) (sc : Int32) (hv : Int32) (cI : ClassId) (B : Nat → Nat) (w : Nat → Int32) (st : Nat → Int32) (ln : Nat → Int32) (hF : fm_FO B w st ln) (hd : 1 < fm_WD B 0) : fm_M l (dC, dI) y_FO_designSize w_FO_designSize ({ frames := 1, cells := 0, slots := 0, locals := 23 }) [.ref o] [(o, .inr (1, [.ref wa, .ref sa, .ref la, .int (nI (fm_HF B 2)), .int (nI (fm_HF B 3)), .int (sz), .int (sc), .int (hv)])), (wa, .inl (cI, 2048, .inl (w))), (sa, .inl (cI, 10, .inl (st))), (la, .inl (cI, 10, .inl (ln)))] [(cI, .int)] ((nI (fm_WO B 7) >>> (nI 4 &&& 31))) := by
  refine Met.ofW (cc := b_FO_designSize) (maxL := 1) (ret := (some .int)) (by decide) rfl ?_
  intro pg ev s m args below meth cd s₁ BD hml hv
  obtain ⟨rfl, hP, hK⟩ := hv
  have hx := BD.exec
  have hb := BD.bytes
  have hr := BD.returns
  have hts := atoms_spec (ws := w_FO_designSize) BD.pre
  have ht : ∀ w ∈ fm_T, w.before _ s = true := fun w h => hts w (List.mem_cons_of_mem _ h)
  have hown : s.vm.findClass R_FO = some m.cls := findClass_of_methodNamed BD.named
  have hlocks := BD.notSynchronized
  have S : CallFix pg m cd b_FO_designSize 1 s _ w_FO_designSize R_FO := ⟨hx, hb, hml, hown, hts⟩
  have hl := lv_entry ([.ref o]) (n := 1) (Nat.le_of_ble_eq_true rfl)
  rw [lg_entry_eq]
  generalize (lg_sl ([.ref o]) ++ List.replicate (1 - (lg_sl ([.ref o])).length) Slot.unset).toArray = ls at hl ⊢
  have hl : lv_has ls 1 [(0, .ref o)] := hl
  have hB : ∀ i, B i < 256 := hF.1.1
  obtain ⟨hL, hFw, hFs, hFl⟩ := id hF
  obtain ⟨-, hq, h3, h10⟩ := id hL
  refine lv_aload_n hx hb d_FO_designSize_0 rfl (lv_at hl 0 rfl) ?_
  refine lv_iconst (v := nI (0)) hx hb d_FO_designSize_1 (by decide) ?_
  refine lv_iconst (v := nI (1)) hx hb d_FO_designSize_2 (by decide) ?_
  refine fm_cv S (c_FO_wordN l dC dI o wa sa la sz sc hv cI B w st ln 0 1 (hF) (by omega) (by omega)) rfl rfl k_FO_word q_1_153 ⟨Nat.le_of_ble_eq_true rfl, Nat.le_of_ble_eq_true rfl⟩ (hP.sub [0, 1, 2, 3] rfl) (hK.sub [0] rfl) 0 rfl rfl rfl hl.1 rfl (Nat.le_of_ble_eq_true rfl) ⟨Nat.zero_le _, Nat.zero_le _⟩ d_FO_designSize_3 ?_
  refine lv_iconst (v := nI (4)) hx hb d_FO_designSize_6 (by decide) ?_
  refine lv_ishr hx hb d_FO_designSize_7 ?_
  exact W.iret hx hb hr (fun t ht hW => ⟨_, rfl, rfl, ht⟩) (fun q hq => by cases hq) d_FO_designSize_8
end
section
theorem d_FO_scaled_0 : decode b_FO_scaled 0 = .ok (.iload_n 1, 1) := by decide +kernel
theorem d_FO_scaled_1 : decode b_FO_scaled 1 = .ok (.ldc 63, 2) := by decide +kernel
theorem d_FO_scaled_3 : decode b_FO_scaled 3 = .ok (.iand, 1) := by decide +kernel
theorem d_FO_scaled_4 : decode b_FO_scaled 4 = .ok (.i2l, 1) := by decide +kernel
theorem d_FO_scaled_5 : decode b_FO_scaled 5 = .ok (.aload_n 0, 1) := by decide +kernel
theorem d_FO_scaled_6 : decode b_FO_scaled 6 = .ok (.getfield 52, 3) := by decide +kernel
theorem d_FO_scaled_9 : decode b_FO_scaled 9 = .ok (.i2l, 1) := by decide +kernel
theorem d_FO_scaled_10 : decode b_FO_scaled 10 = .ok (.lmul, 1) := by decide +kernel
theorem d_FO_scaled_11 : decode b_FO_scaled 11 = .ok (.lstore_n 2, 1) := by decide +kernel
theorem d_FO_scaled_12 : decode b_FO_scaled 12 = .ok (.lload_n 2, 1) := by decide +kernel
theorem d_FO_scaled_13 : decode b_FO_scaled 13 = .ok (.bipush 20, 2) := by decide +kernel
theorem d_FO_scaled_15 : decode b_FO_scaled 15 = .ok (.aload_n 0, 1) := by decide +kernel
theorem d_FO_scaled_16 : decode b_FO_scaled 16 = .ok (.getfield 55, 3) := by decide +kernel
theorem d_FO_scaled_19 : decode b_FO_scaled 19 = .ok (.isub, 1) := by decide +kernel
theorem d_FO_scaled_20 : decode b_FO_scaled 20 = .ok (.lshr, 1) := by decide +kernel
theorem d_FO_scaled_21 : decode b_FO_scaled 21 = .ok (.lstore 4, 2) := by decide +kernel
theorem d_FO_scaled_23 : decode b_FO_scaled 23 = .ok (.iload_n 1, 1) := by decide +kernel
theorem d_FO_scaled_24 : decode b_FO_scaled 24 = .ok (.iconst 0, 1) := by decide +kernel
theorem d_FO_scaled_25 : decode b_FO_scaled 25 = .ok (.invokestatic 64, 3) := by decide +kernel
theorem d_FO_scaled_28 : decode b_FO_scaled 28 = .ok (.sipush 255, 3) := by decide +kernel
theorem d_FO_scaled_31 : decode b_FO_scaled 31 = .ok (.if_icmp .ne 20, 3) := by decide +kernel
theorem d_FO_scaled_34 : decode b_FO_scaled 34 = .ok (.lload 4, 2) := by decide +kernel
theorem d_FO_scaled_36 : decode b_FO_scaled 36 = .ok (.aload_n 0, 1) := by decide +kernel
theorem d_FO_scaled_37 : decode b_FO_scaled 37 = .ok (.getfield 52, 3) := by decide +kernel
theorem d_FO_scaled_40 : decode b_FO_scaled 40 = .ok (.i2l, 1) := by decide +kernel
theorem d_FO_scaled_41 : decode b_FO_scaled 41 = .ok (.iconst 4, 1) := by decide +kernel
theorem d_FO_scaled_42 : decode b_FO_scaled 42 = .ok (.aload_n 0, 1) := by decide +kernel
theorem d_FO_scaled_43 : decode b_FO_scaled 43 = .ok (.getfield 55, 3) := by decide +kernel
theorem d_FO_scaled_46 : decode b_FO_scaled 46 = .ok (.iadd, 1) := by decide +kernel
theorem d_FO_scaled_47 : decode b_FO_scaled 47 = .ok (.lshl, 1) := by decide +kernel
theorem d_FO_scaled_48 : decode b_FO_scaled 48 = .ok (.lsub, 1) := by decide +kernel
theorem d_FO_scaled_49 : decode b_FO_scaled 49 = .ok (.lstore 4, 2) := by decide +kernel
theorem d_FO_scaled_51 : decode b_FO_scaled 51 = .ok (.lload 4, 2) := by decide +kernel
theorem d_FO_scaled_53 : decode b_FO_scaled 53 = .ok (.l2i, 1) := by decide +kernel
theorem d_FO_scaled_54 : decode b_FO_scaled 54 = .ok (.ireturn, 1) := by decide +kernel
set_option maxHeartbeats 4000000 in
set_option maxRecDepth 100000 in
theorem c_FO_scaled (l : Launch) (dC : Nat → ClassId) (dI : Nat → Nat → Nat) (o : Nat) (wa : Nat) (sa : Nat) (la : Nat) (sz : Int32) (s0 : Nat) (cI : ClassId) (B : Nat → Nat) (w : Nat → Int32) (st : Nat → Int32) (ln : Nat → Int32) (p : Nat) (k : Nat) (hB : ∀ i, B i < 256) (hs : s0 < 134217728) : fm_M l (dC, dI) y_FO_scaled w_FO_scaled ({ frames := 1, cells := 0, slots := 0, locals := 21 }) [.ref o, .int (fm_W B p k)] [(o, .inr (1, [.ref wa, .ref sa, .ref la, .int (nI (fm_HF B 2)), .int (nI (fm_HF B 3)), .int (sz), .int (nI (fm_z s0)), .int (nI (fm_h s0))])), (wa, .inl (cI, 2048, .inl (w))), (sa, .inl (cI, 10, .inl (st))), (la, .inl (cI, 10, .inl (ln)))] [(cI, .int)] ((fm_sc B s0 p k)) := by
  refine Met.ofW (cc := b_FO_scaled) (maxL := 6) (ret := (some .int)) (by decide) rfl ?_
  intro pg ev s m args below meth cd s₁ BD hml hv
  obtain ⟨rfl, hP, hK⟩ := hv
  have hx := BD.exec
  have hb := BD.bytes
  have hr := BD.returns
  have hts := atoms_spec (ws := w_FO_scaled) BD.pre
  have ht : ∀ w ∈ fm_T, w.before _ s = true := fun w h => hts w (List.mem_cons_of_mem _ h)
  have hown : s.vm.findClass R_FO = some m.cls := findClass_of_methodNamed BD.named
  have hlocks := BD.notSynchronized
  have S : CallFix pg m cd b_FO_scaled 6 s _ w_FO_scaled R_FO := ⟨hx, hb, hml, hown, hts⟩
  have hl := lv_entry ([.ref o, .int (fm_W B p k)]) (n := 6) (Nat.le_of_ble_eq_true rfl)
  rw [lg_entry_eq]
  generalize (lg_sl ([.ref o, .int (fm_W B p k)]) ++ List.replicate (6 - (lg_sl ([.ref o, .int (fm_W B p k)])).length) Slot.unset).toArray = ls at hl ⊢
  have hl : lv_has ls 6 [(0, .ref o), (1, .int (fm_W B p k))] := hl
  have hh4 := fm_h_le s0
  have hnum := fm_num_lt hB p k
  have hzz : fm_z s0 < 134217728 := Nat.lt_of_le_of_lt (Nat.div_le_self _ _) hs
  refine lv_iload_n hx hb d_FO_scaled_0 rfl (lv_at hl 1 rfl) ?_
  refine lv_ldc (own := R_FO) (v := nI (16777215)) hx hb hown (ht _ q_1_188) d_FO_scaled_1 ?_
  refine lv_iand hx hb d_FO_scaled_3 ?_
  refine fm_tw (z := nI (fm_num B p k)) (fm_numW hB p k) ?_
  refine lv_i2l (v := lN (fm_num B p k)) hx hb d_FO_scaled_4 (nI_l (by omega)) ?_
  refine lv_aload_n hx hb d_FO_scaled_5 rfl (lv_at hl 0 rfl) ?_
  refine va_get (D := (dC, dI)) (ci := 1) (v := .int (nI (fm_z s0))) (C := R_FO) (T := F_FO) (N := 8) hx hb ht i_FO hown hK hP 0 rfl rfl 6 (by decide) (ht _ q_1_80) (fun _ h9 => h9) rfl d_FO_scaled_6 ?_
  refine lv_i2l (v := lN (fm_z s0)) hx hb d_FO_scaled_9 (nI_l (by omega)) ?_
  refine lv_lmul hx hb d_FO_scaled_10 ?_
  refine fm_twl (z := lN (((fm_num B p k)) * ((fm_z s0)))) (lN_mul _ _) ?_
  refine lv_lstore_n (lv' := [(2, .long (lN (((fm_num B p k)) * ((fm_z s0))))), (0, .ref o), (1, .int (fm_W B p k))]) hx hb d_FO_scaled_11 rfl hl (by decide) rfl (fun ls hl => ?_)
  refine lv_lload_n hx hb d_FO_scaled_12 rfl (lv_at hl 0 rfl) ?_
  refine lv_bipush (v := nI (20)) hx hb d_FO_scaled_13 (by decide) ?_
  refine lv_aload_n hx hb d_FO_scaled_15 rfl (lv_at hl 1 rfl) ?_
  refine va_get (D := (dC, dI)) (ci := 1) (v := .int (nI (fm_h s0))) (C := R_FO) (T := F_FO) (N := 8) hx hb ht i_FO hown hK hP 0 rfl rfl 7 (by decide) (ht _ q_1_81) (fun _ h9 => h9) rfl d_FO_scaled_16 ?_
  refine lv_isub hx hb d_FO_scaled_19 ?_
  refine fm_tw (z := nI (20 - (fm_h s0))) (pk_sub (by omega)) ?_
  refine lv_lshr hx hb d_FO_scaled_20 rfl ?_
  refine lv_lstore (lv' := [(4, .long ((lN (((fm_num B p k)) * ((fm_z s0)))) >>> ((nI (20 - (fm_h s0))).toInt64 &&& 63))), (2, .long (lN (((fm_num B p k)) * ((fm_z s0))))), (0, .ref o), (1, .int (fm_W B p k))]) hx hb d_FO_scaled_21 hl (by decide) rfl (fun ls hl => ?_)
  refine lv_iload_n hx hb d_FO_scaled_23 rfl (lv_at hl 3 rfl) ?_
  refine lv_iconst (v := nI (0)) hx hb d_FO_scaled_24 (by decide) ?_
  refine fm_cs S (c_FO_byteOf l dC dI (fm_W B p k) 0 (by omega)) rfl rfl k_FO_byteOf q_1_189 ⟨Nat.le_of_ble_eq_true rfl, Nat.le_of_ble_eq_true rfl⟩ (hP.sub [] rfl) (hK.sub [] rfl) rfl hl.1 rfl (Nat.le_of_ble_eq_true rfl) ⟨Nat.zero_le _, Nat.zero_le _⟩ d_FO_scaled_25 ?_
  refine fm_tw (z := nI (fm_AT B p k 0)) (by simp only [fm_by_W hB _ _ (show 0 < 4 by decide), fm_by_W hB _ _ (show 1 < 4 by decide), fm_by_W hB _ _ (show 2 < 4 by decide), fm_by_W hB _ _ (show 3 < 4 by decide)]) ?_
  have f0_25 := fm_AT_lt hB p k 0
  refine lv_sipush (v := nI (255)) hx hb d_FO_scaled_28 (by decide) ?_
  refine lv_icmp_ne (tgt := 51) hx hb d_FO_scaled_31 (by decide) (fun c0 => ?_) (fun c0 => ?_)
  · have c_31 : ¬ (fm_AT B p k 0 = 255) := fun z => c0 ((nI_eq (a := fm_AT B p k 0) (b := 255) (by omega) (by omega)).mpr z)
    refine lv_lload hx hb d_FO_scaled_51 (lv_at hl 0 rfl) ?_
    refine lv_l2i hx hb d_FO_scaled_53 rfl ?_
    exact W.iret hx hb hr (fun t ht hW => ⟨_, rfl, by first | (rw [fm_sc, if_pos c_31]; done) | (rw [fm_sc, if_neg c_31]; done), ht⟩) (fun q hq => by cases hq) d_FO_scaled_54
  · have c_31 : fm_AT B p k 0 = 255 := (nI_eq (a := fm_AT B p k 0) (b := 255) (by omega) (by omega)).mp c0
    refine lv_lload hx hb d_FO_scaled_34 (lv_at hl 0 rfl) ?_
    refine lv_aload_n hx hb d_FO_scaled_36 rfl (lv_at hl 2 rfl) ?_
    refine va_get (D := (dC, dI)) (ci := 1) (v := .int (nI (fm_z s0))) (C := R_FO) (T := F_FO) (N := 8) hx hb ht i_FO hown hK hP 0 rfl rfl 6 (by decide) (ht _ q_1_80) (fun _ h9 => h9) rfl d_FO_scaled_37 ?_
    refine lv_i2l (v := lN (fm_z s0)) hx hb d_FO_scaled_40 (nI_l (by omega)) ?_
    refine lv_iconst (v := nI (4)) hx hb d_FO_scaled_41 (by decide) ?_
    refine lv_aload_n hx hb d_FO_scaled_42 rfl (lv_at hl 2 rfl) ?_
    refine va_get (D := (dC, dI)) (ci := 1) (v := .int (nI (fm_h s0))) (C := R_FO) (T := F_FO) (N := 8) hx hb ht i_FO hown hK hP 0 rfl rfl 7 (by decide) (ht _ q_1_81) (fun _ h9 => h9) rfl d_FO_scaled_43 ?_
    refine lv_iadd hx hb d_FO_scaled_46 ?_
    refine fm_tw (z := nI (4 + fm_h s0)) (nI_add _ _) ?_
    refine lv_lshl hx hb d_FO_scaled_47 rfl ?_
    refine lv_lsub hx hb d_FO_scaled_48 ?_
    refine lv_lstore (lv' := [(4, .long (((lN (((fm_num B p k)) * ((fm_z s0)))) >>> ((nI (20 - (fm_h s0))).toInt64 &&& 63)) - ((lN (fm_z s0)) <<< ((nI (4 + fm_h s0)).toInt64 &&& 63)))), (2, .long (lN (((fm_num B p k)) * ((fm_z s0))))), (0, .ref o), (1, .int (fm_W B p k))]) hx hb d_FO_scaled_49 hl (by decide) rfl (fun ls hl => ?_)
    refine lv_lload hx hb d_FO_scaled_51 (lv_at hl 0 rfl) ?_
    refine lv_l2i hx hb d_FO_scaled_53 rfl ?_
    exact W.iret hx hb hr (fun t ht hW => ⟨_, rfl, by first | (rw [fm_sc, if_pos c_31]; done) | (rw [fm_sc, if_neg c_31]; done), ht⟩) (fun q hq => by cases hq) d_FO_scaled_54
theorem d_FO_character_0 : decode b_FO_character 0 = .ok (.iload_n 1, 1) := by decide +kernel
theorem d_FO_character_1 : decode b_FO_character 1 = .ok (.aload_n 0, 1) := by decide +kernel
theorem d_FO_character_2 : decode b_FO_character 2 = .ok (.getfield 39, 3) := by decide +kernel
theorem d_FO_character_5 : decode b_FO_character 5 = .ok (.if_icmp .lt 25, 3) := by decide +kernel
theorem d_FO_character_8 : decode b_FO_character 8 = .ok (.iload_n 1, 1) := by decide +kernel
theorem d_FO_character_9 : decode b_FO_character 9 = .ok (.aload_n 0, 1) := by decide +kernel
theorem d_FO_character_10 : decode b_FO_character 10 = .ok (.getfield 43, 3) := by decide +kernel
theorem d_FO_character_13 : decode b_FO_character 13 = .ok (.if_icmp .gt 17, 3) := by decide +kernel
theorem d_FO_character_16 : decode b_FO_character 16 = .ok (.aload_n 0, 1) := by decide +kernel
theorem d_FO_character_17 : decode b_FO_character 17 = .ok (.iconst 1, 1) := by decide +kernel
theorem d_FO_character_18 : decode b_FO_character 18 = .ok (.iload_n 1, 1) := by decide +kernel
theorem d_FO_character_19 : decode b_FO_character 19 = .ok (.aload_n 0, 1) := by decide +kernel
theorem d_FO_character_20 : decode b_FO_character 20 = .ok (.getfield 39, 3) := by decide +kernel
theorem d_FO_character_23 : decode b_FO_character 23 = .ok (.isub, 1) := by decide +kernel
theorem d_FO_character_24 : decode b_FO_character 24 = .ok (.invokevirtual 60, 3) := by decide +kernel
theorem d_FO_character_27 : decode b_FO_character 27 = .ok (.goto 4, 3) := by decide +kernel
theorem d_FO_character_30 : decode b_FO_character 30 = .ok (.iconst 0, 1) := by decide +kernel
theorem d_FO_character_31 : decode b_FO_character 31 = .ok (.ireturn, 1) := by decide +kernel
set_option maxHeartbeats 4000000 in
set_option maxRecDepth 100000 in
theorem c_FO_character (l : Launch) (dC : Nat → ClassId) (dI : Nat → Nat → Nat) (o : Nat) (wa : Nat) (sa : Nat) (la : Nat) (sz : Int32) (sc : Int32) (hv : Int32) (cI : ClassId) (B : Nat → Nat) (w : Nat → Int32) (st : Nat → Int32) (ln : Nat → Int32) (c : Int32) (hF : fm_FO B w st ln) : fm_M l (dC, dI) y_FO_character w_FO_character ({ frames := 1, cells := 0, slots := 0, locals := 23 }) [.ref o, .int (c)] [(o, .inr (1, [.ref wa, .ref sa, .ref la, .int (nI (fm_HF B 2)), .int (nI (fm_HF B 3)), .int (sz), .int (sc), .int (hv)])), (wa, .inl (cI, 2048, .inl (w))), (sa, .inl (cI, 10, .inl (st))), (la, .inl (cI, 10, .inl (ln)))] [(cI, .int)] ((fm_ch B c)) := by
  refine Met.ofW (cc := b_FO_character) (maxL := 2) (ret := (some .int)) (by decide) rfl ?_
  intro pg ev s m args below meth cd s₁ BD hml hv
  obtain ⟨rfl, hP, hK⟩ := hv
  have hx := BD.exec
  have hb := BD.bytes
  have hr := BD.returns
  have hts := atoms_spec (ws := w_FO_character) BD.pre
  have ht : ∀ w ∈ fm_T, w.before _ s = true := fun w h => hts w (List.mem_cons_of_mem _ h)
  have hown : s.vm.findClass R_FO = some m.cls := findClass_of_methodNamed BD.named
  have hlocks := BD.notSynchronized
  have S : CallFix pg m cd b_FO_character 2 s _ w_FO_character R_FO := ⟨hx, hb, hml, hown, hts⟩
  have hl := lv_entry ([.ref o, .int (c)]) (n := 2) (Nat.le_of_ble_eq_true rfl)
  rw [lg_entry_eq]
  generalize (lg_sl ([.ref o, .int (c)]) ++ List.replicate (2 - (lg_sl ([.ref o, .int (c)])).length) Slot.unset).toArray = ls at hl ⊢
  have hl : lv_has ls 2 [(0, .ref o), (1, .int (c))] := hl
  have hB : ∀ i, B i < 256 := hF.1.1
  obtain ⟨hL, hFw, hFs, hFl⟩ := id hF
  obtain ⟨-, hq, h3, h10⟩ := id hL
  have hb2 := fm_HF_lt hB 2
  refine lv_iload_n hx hb d_FO_character_0 rfl (lv_at hl 1 rfl) ?_
  refine lv_aload_n hx hb d_FO_character_1 rfl (lv_at hl 0 rfl) ?_
  refine va_get (D := (dC, dI)) (ci := 1) (v := .int (nI (fm_HF B 2))) (C := R_FO) (T := F_FO) (N := 8) hx hb ht i_FO hown hK hP 0 rfl rfl 3 (by decide) (ht _ q_1_73) (fun _ h9 => h9) rfl d_FO_character_2 ?_
  refine lv_icmp_lt (tgt := 30) hx hb d_FO_character_5 (by decide) (fun c0 => ?_) (fun c0 => ?_)
  · have c_5 := c0
    refine lv_iconst (v := nI (0)) hx hb d_FO_character_30 (by decide) ?_
    exact W.iret hx hb hr (fun t ht hW => ⟨_, rfl, by first | (rw [fm_ch, if_neg (fun z => z.1 c_5)]; done) | (rw [fm_ch, if_neg (fun z => z.2 c0)]; done), ht⟩) (fun q hq => by cases hq) d_FO_character_31
  · have c_5 := c0
    obtain ⟨n, hn, hcn, rfl⟩ := fm_ge (by omega) c_5
    refine lv_iload_n hx hb d_FO_character_8 rfl (lv_at hl 1 rfl) ?_
    refine lv_aload_n hx hb d_FO_character_9 rfl (lv_at hl 0 rfl) ?_
    refine va_get (D := (dC, dI)) (ci := 1) (v := .int (nI (fm_HF B 3))) (C := R_FO) (T := F_FO) (N := 8) hx hb ht i_FO hown hK hP 0 rfl rfl 4 (by decide) (ht _ q_1_76) (fun _ h9 => h9) rfl d_FO_character_10 ?_
    refine lv_icmp_gt (tgt := 30) hx hb d_FO_character_13 (by decide) (fun c0 => ?_) (fun c0 => ?_)
    · have c_13 : fm_HF B 3 < n := (nI_ltI (a := fm_HF B 3) (b := n) (by omega) (by omega)).mp c0
      refine lv_iconst (v := nI (0)) hx hb d_FO_character_30 (by decide) ?_
      exact W.iret hx hb hr (fun t ht hW => ⟨_, rfl, by first | (rw [fm_ch, if_neg (fun z => z.1 c_5)]; done) | (rw [fm_ch, if_neg (fun z => z.2 c0)]; done), ht⟩) (fun q hq => by cases hq) d_FO_character_31
    · have c_13 : ¬ (fm_HF B 3 < n) := fun z => c0 ((nI_ltI (a := fm_HF B 3) (b := n) (by omega) (by omega)).mpr z)
      refine lv_aload_n hx hb d_FO_character_16 rfl (lv_at hl 0 rfl) ?_
      refine lv_iconst (v := nI (1)) hx hb d_FO_character_17 (by decide) ?_
      refine lv_iload_n hx hb d_FO_character_18 rfl (lv_at hl 1 rfl) ?_
      refine lv_aload_n hx hb d_FO_character_19 rfl (lv_at hl 0 rfl) ?_
      refine va_get (D := (dC, dI)) (ci := 1) (v := .int (nI (fm_HF B 2))) (C := R_FO) (T := F_FO) (N := 8) hx hb ht i_FO hown hK hP 0 rfl rfl 3 (by decide) (ht _ q_1_73) (fun _ h9 => h9) rfl d_FO_character_20 ?_
      refine lv_isub hx hb d_FO_character_23 ?_
      refine fm_tw (z := nI (n - (fm_HF B 2))) (pk_sub (by omega)) ?_
      refine fm_cv S (c_FO_wordN l dC dI o wa sa la sz sc hv cI B w st ln 1 (n - (fm_HF B 2)) (hF) (by omega) (by rw [fm_WD1]; omega)) rfl rfl k_FO_word q_1_153 ⟨Nat.le_of_ble_eq_true rfl, Nat.le_of_ble_eq_true rfl⟩ (hP.sub [0, 1, 2, 3] rfl) (hK.sub [0] rfl) 0 rfl rfl rfl hl.1 rfl (Nat.le_of_ble_eq_true rfl) ⟨Nat.zero_le _, Nat.zero_le _⟩ d_FO_character_24 ?_
      refine lv_goto (tgt := 31) hx hb d_FO_character_27 (by decide) ?_
      exact W.iret hx hb hr (fun t ht hW => ⟨_, rfl, by rw [fm_ch_in hB hcn (by omega)], ht⟩) (fun q hq => by cases hq) d_FO_character_31
theorem c_FO_characterN (l : Launch) (dC : Nat → ClassId) (dI : Nat → Nat → Nat) (o : Nat) (wa : Nat) (sa : Nat) (la : Nat) (sz : Int32) (sc : Int32) (hv : Int32) (cI : ClassId) (B : Nat → Nat) (w : Nat → Int32) (st : Nat → Int32) (ln : Nat → Int32) (c : Nat) (hF : fm_FO B w st ln) (h1 : fm_HF B 2 ≤ c) (h2 : c ≤ fm_HF B 3) : fm_M l (dC, dI) y_FO_character w_FO_character ({ frames := 1, cells := 0, slots := 0, locals := 23 }) [.ref o, .int (nI (c))] [(o, .inr (1, [.ref wa, .ref sa, .ref la, .int (nI (fm_HF B 2)), .int (nI (fm_HF B 3)), .int (sz), .int (sc), .int (hv)])), (wa, .inl (cI, 2048, .inl (w))), (sa, .inl (cI, 10, .inl (st))), (la, .inl (cI, 10, .inl (ln)))] [(cI, .int)] ((fm_W B 1 (c - fm_HF B 2))) := by
  rw [← fm_ch_in hF.1.1 h1 h2]
  exact c_FO_character l dC dI o wa sa la sz sc hv cI B w st ln (nI c) hF
theorem d_FO_isThere_0 : decode b_FO_isThere 0 = .ok (.aload_n 0, 1) := by decide +kernel
theorem d_FO_isThere_1 : decode b_FO_isThere 1 = .ok (.iload_n 1, 1) := by decide +kernel
theorem d_FO_isThere_2 : decode b_FO_isThere 2 = .ok (.invokevirtual 67, 3) := by decide +kernel
theorem d_FO_isThere_5 : decode b_FO_isThere 5 = .ok (.invokestatic 70, 3) := by decide +kernel
theorem d_FO_isThere_8 : decode b_FO_isThere 8 = .ok (.ifCond .eq 7, 3) := by decide +kernel
theorem d_FO_isThere_11 : decode b_FO_isThere 11 = .ok (.iconst 1, 1) := by decide +kernel
theorem d_FO_isThere_12 : decode b_FO_isThere 12 = .ok (.goto 4, 3) := by decide +kernel
theorem d_FO_isThere_15 : decode b_FO_isThere 15 = .ok (.iconst 0, 1) := by decide +kernel
theorem d_FO_isThere_16 : decode b_FO_isThere 16 = .ok (.ireturn, 1) := by decide +kernel
set_option maxHeartbeats 4000000 in
set_option maxRecDepth 100000 in
theorem c_FO_isThere (l : Launch) (dC : Nat → ClassId) (dI : Nat → Nat → Nat) (o : Nat) (wa : Nat) (sa : Nat) (la : Nat) (sz : Int32) (sc : Int32) (hv : Int32) (cI : ClassId) (B : Nat → Nat) (w : Nat → Int32) (st : Nat → Int32) (ln : Nat → Int32) (c : Int32) (hF : fm_FO B w st ln) : fm_M l (dC, dI) y_FO_isThere w_FO_isThere ({ frames := 2, cells := 0, slots := 0, locals := 44 }) [.ref o, .int (c)] [(o, .inr (1, [.ref wa, .ref sa, .ref la, .int (nI (fm_HF B 2)), .int (nI (fm_HF B 3)), .int (sz), .int (sc), .int (hv)])), (wa, .inl (cI, 2048, .inl (w))), (sa, .inl (cI, 10, .inl (st))), (la, .inl (cI, 10, .inl (ln)))] [(cI, .int)] ((fm_bI (fm_thI B c))) := by
  refine Met.ofW (cc := b_FO_isThere) (maxL := 2) (ret := (some .boolean)) (by decide) rfl ?_
  intro pg ev s m args below meth cd s₁ BD hml hv
  obtain ⟨rfl, hP, hK⟩ := hv
  have hx := BD.exec
  have hb := BD.bytes
  have hr := BD.returns
  have hts := atoms_spec (ws := w_FO_isThere) BD.pre
  have ht : ∀ w ∈ fm_T, w.before _ s = true := fun w h => hts w (List.mem_cons_of_mem _ h)
  have hown : s.vm.findClass R_FO = some m.cls := findClass_of_methodNamed BD.named
  have hlocks := BD.notSynchronized
  have S : CallFix pg m cd b_FO_isThere 2 s _ w_FO_isThere R_FO := ⟨hx, hb, hml, hown, hts⟩
  have hl := lv_entry ([.ref o, .int (c)]) (n := 2) (Nat.le_of_ble_eq_true rfl)
  rw [lg_entry_eq]
  generalize (lg_sl ([.ref o, .int (c)]) ++ List.replicate (2 - (lg_sl ([.ref o, .int (c)])).length) Slot.unset).toArray = ls at hl ⊢
  have hl : lv_has ls 2 [(0, .ref o), (1, .int (c))] := hl
  have hB : ∀ i, B i < 256 := hF.1.1
  obtain ⟨hL, hFw, hFs, hFl⟩ := id hF
  obtain ⟨-, hq, h3, h10⟩ := id hL
  refine lv_aload_n hx hb d_FO_isThere_0 rfl (lv_at hl 0 rfl) ?_
  refine lv_iload_n hx hb d_FO_isThere_1 rfl (lv_at hl 1 rfl) ?_
  refine fm_cv S (c_FO_character l dC dI o wa sa la sz sc hv cI B w st ln c (hF)) rfl rfl k_FO_character q_1_149 ⟨Nat.le_of_ble_eq_true rfl, Nat.le_of_ble_eq_true rfl⟩ (hP.sub [0, 1, 2, 3] rfl) (hK.sub [0] rfl) 0 rfl rfl rfl hl.1 rfl (Nat.le_of_ble_eq_true rfl) ⟨Nat.zero_le _, Nat.zero_le _⟩ d_FO_isThere_2 ?_
  refine fm_cs S (c_FO_widthPlace l dC dI (fm_ch B c) ) rfl rfl k_FO_widthPlace q_1_157 ⟨Nat.le_of_ble_eq_true rfl, Nat.le_of_ble_eq_true rfl⟩ (hP.sub [] rfl) (hK.sub [] rfl) rfl hl.1 rfl (Nat.le_of_ble_eq_true rfl) ⟨Nat.zero_le _, Nat.zero_le _⟩ d_FO_isThere_5 ?_
  have f0_5 := fm_by_lt (fm_ch B c) 0
  refine lv_if_eq (tgt := 15) hx hb d_FO_isThere_8 (by decide) (fun c0 => ?_) (fun c0 => ?_)
  · have c_8 : fm_by (fm_ch B c) 0 = 0 := (nI_eq (a := fm_by (fm_ch B c) 0) (b := 0) (by omega) (by omega)).mp c0
    refine lv_iconst (v := nI (0)) hx hb d_FO_isThere_15 (by decide) ?_
    exact W.zret (ty := .boolean) hx hb hr (rfl) (fun t ht hW => ⟨_, rfl, by first | exact fm_bI_1 (by rw [fm_thI_ch hB]; exact decide_eq_true c_8) | exact fm_bI_0 (by rw [fm_thI_ch hB]; exact decide_eq_false (fun z => z c_8)), ht⟩) (fun q hq => by cases hq) d_FO_isThere_16
  · have c_8 : ¬ (fm_by (fm_ch B c) 0 = 0) := fun z => c0 ((nI_eq (a := fm_by (fm_ch B c) 0) (b := 0) (by omega) (by omega)).mpr z)
    refine lv_iconst (v := nI (1)) hx hb d_FO_isThere_11 (by decide) ?_
    refine lv_goto (tgt := 16) hx hb d_FO_isThere_12 (by decide) ?_
    exact W.zret (ty := .boolean) hx hb hr (rfl) (fun t ht hW => ⟨_, rfl, by first | exact fm_bI_1 (by rw [fm_thI_ch hB]; exact decide_eq_true c_8) | exact fm_bI_0 (by rw [fm_thI_ch hB]; exact decide_eq_false (fun z => z c_8)), ht⟩) (fun q hq => by cases hq) d_FO_isThere_16
theorem c_FO_isThereN (l : Launch) (dC : Nat → ClassId) (dI : Nat → Nat → Nat) (o : Nat) (wa : Nat) (sa : Nat) (la : Nat) (sz : Int32) (sc : Int32) (hv : Int32) (cI : ClassId) (B : Nat → Nat) (w : Nat → Int32) (st : Nat → Int32) (ln : Nat → Int32) (c : Nat) (hF : fm_FO B w st ln) (hc : c < 2 ^ 31) : fm_M l (dC, dI) y_FO_isThere w_FO_isThere ({ frames := 2, cells := 0, slots := 0, locals := 44 }) [.ref o, .int (nI (c))] [(o, .inr (1, [.ref wa, .ref sa, .ref la, .int (nI (fm_HF B 2)), .int (nI (fm_HF B 3)), .int (sz), .int (sc), .int (hv)])), (wa, .inl (cI, 2048, .inl (w))), (sa, .inl (cI, 10, .inl (st))), (la, .inl (cI, 10, .inl (ln)))] [(cI, .int)] ((fm_bI (fm_th B c))) := by
  rw [← fm_thI_n hc]
  exact c_FO_isThere l dC dI o wa sa la sz sc hv cI B w st ln (nI c) hF
theorem d_FO_width_0 : decode b_FO_width 0 = .ok (.aload_n 0, 1) := by decide +kernel
theorem d_FO_width_1 : decode b_FO_width 1 = .ok (.aload_n 0, 1) := by decide +kernel
theorem d_FO_width_2 : decode b_FO_width 2 = .ok (.iconst 2, 1) := by decide +kernel
theorem d_FO_width_3 : decode b_FO_width 3 = .ok (.aload_n 0, 1) := by decide +kernel
theorem d_FO_width_4 : decode b_FO_width 4 = .ok (.iload_n 1, 1) := by decide +kernel
theorem d_FO_width_5 : decode b_FO_width 5 = .ok (.invokevirtual 67, 3) := by decide +kernel
theorem d_FO_width_8 : decode b_FO_width 8 = .ok (.invokestatic 70, 3) := by decide +kernel
theorem d_FO_width_11 : decode b_FO_width 11 = .ok (.invokevirtual 60, 3) := by decide +kernel
theorem d_FO_width_14 : decode b_FO_width 14 = .ok (.invokevirtual 73, 3) := by decide +kernel
theorem d_FO_width_17 : decode b_FO_width 17 = .ok (.ireturn, 1) := by decide +kernel
set_option maxHeartbeats 4000000 in
set_option maxRecDepth 100000 in
theorem c_FO_width (l : Launch) (dC : Nat → ClassId) (dI : Nat → Nat → Nat) (o : Nat) (wa : Nat) (sa : Nat) (la : Nat) (sz : Int32) (s0 : Nat) (cI : ClassId) (B : Nat → Nat) (w : Nat → Int32) (st : Nat → Int32) (ln : Nat → Int32) (c : Nat) (hF : fm_FO B w st ln) (h1 : fm_HF B 2 ≤ c) (h2 : c ≤ fm_HF B 3) (hz : fm_all (fm_WD B 1) (fm_size1 B) = true) (hs : s0 < 134217728) : fm_M l (dC, dI) y_FO_width w_FO_width ({ frames := 2, cells := 0, slots := 0, locals := 46 }) [.ref o, .int (nI (c))] [(o, .inr (1, [.ref wa, .ref sa, .ref la, .int (nI (fm_HF B 2)), .int (nI (fm_HF B 3)), .int (sz), .int (nI (fm_z s0)), .int (nI (fm_h s0))])), (wa, .inl (cI, 2048, .inl (w))), (sa, .inl (cI, 10, .inl (st))), (la, .inl (cI, 10, .inl (ln)))] [(cI, .int)] ((fm_sc B s0 2 (fm_pl B c 0))) := by
  refine Met.ofW (cc := b_FO_width) (maxL := 2) (ret := (some .int)) (by decide) rfl ?_
  intro pg ev s m args below meth cd s₁ BD hml hv
  obtain ⟨rfl, hP, hK⟩ := hv
  have hx := BD.exec
  have hb := BD.bytes
  have hr := BD.returns
  have hts := atoms_spec (ws := w_FO_width) BD.pre
  have ht : ∀ w ∈ fm_T, w.before _ s = true := fun w h => hts w (List.mem_cons_of_mem _ h)
  have hown : s.vm.findClass R_FO = some m.cls := findClass_of_methodNamed BD.named
  have hlocks := BD.notSynchronized
  have S : CallFix pg m cd b_FO_width 2 s _ w_FO_width R_FO := ⟨hx, hb, hml, hown, hts⟩
  have hl := lv_entry ([.ref o, .int (nI (c))]) (n := 2) (Nat.le_of_ble_eq_true rfl)
  rw [lg_entry_eq]
  generalize (lg_sl ([.ref o, .int (nI (c))]) ++ List.replicate (2 - (lg_sl ([.ref o, .int (nI (c))])).length) Slot.unset).toArray = ls at hl ⊢
  have hl : lv_has ls 2 [(0, .ref o), (1, .int (nI (c)))] := hl
  have hB : ∀ i, B i < 256 := hF.1.1
  obtain ⟨hL, hFw, hFs, hFl⟩ := id hF
  obtain ⟨-, hq, h3, h10⟩ := id hL
  have hpl := fm_pl_lt hz h1 h2 (show 0 < 4 by decide)
  refine lv_aload_n hx hb d_FO_width_0 rfl (lv_at hl 0 rfl) ?_
  refine lv_aload_n hx hb d_FO_width_1 rfl (lv_at hl 0 rfl) ?_
  refine lv_iconst (v := nI (2)) hx hb d_FO_width_2 (by decide) ?_
  refine lv_aload_n hx hb d_FO_width_3 rfl (lv_at hl 0 rfl) ?_
  refine lv_iload_n hx hb d_FO_width_4 rfl (lv_at hl 1 rfl) ?_
  refine fm_cv S (c_FO_characterN l dC dI o wa sa la sz (nI (fm_z s0)) (nI (fm_h s0)) cI B w st ln c (hF) (h1) (h2)) rfl rfl k_FO_character q_1_149 ⟨Nat.le_of_ble_eq_true rfl, Nat.le_of_ble_eq_true rfl⟩ (hP.sub [0, 1, 2, 3] rfl) (hK.sub [0] rfl) 0 rfl rfl rfl hl.1 rfl (Nat.le_of_ble_eq_true rfl) ⟨Nat.zero_le _, Nat.zero_le _⟩ d_FO_width_5 ?_
  refine fm_cs S (c_FO_widthPlace l dC dI (fm_W B 1 (c - fm_HF B 2)) ) rfl rfl k_FO_widthPlace q_1_157 ⟨Nat.le_of_ble_eq_true rfl, Nat.le_of_ble_eq_true rfl⟩ (hP.sub [] rfl) (hK.sub [] rfl) rfl hl.1 rfl (Nat.le_of_ble_eq_true rfl) ⟨Nat.zero_le _, Nat.zero_le _⟩ d_FO_width_8 ?_
  refine fm_tw (z := nI (fm_AT B 1 (c - fm_HF B 2) 0)) (by simp only [fm_by_W hB _ _ (show 0 < 4 by decide), fm_by_W hB _ _ (show 1 < 4 by decide), fm_by_W hB _ _ (show 2 < 4 by decide), fm_by_W hB _ _ (show 3 < 4 by decide)]) ?_
  have f0_8 := fm_AT_lt hB 1 (c - fm_HF B 2) 0
  refine fm_cv S (c_FO_wordN l dC dI o wa sa la sz (nI (fm_z s0)) (nI (fm_h s0)) cI B w st ln 2 (fm_AT B 1 (c - fm_HF B 2) 0) (hF) (by decide) (hpl)) rfl rfl k_FO_word q_1_153 ⟨Nat.le_of_ble_eq_true rfl, Nat.le_of_ble_eq_true rfl⟩ (hP.sub [0, 1, 2, 3] rfl) (hK.sub [0] rfl) 0 rfl rfl rfl hl.1 rfl (Nat.le_of_ble_eq_true rfl) ⟨Nat.zero_le _, Nat.zero_le _⟩ d_FO_width_11 ?_
  refine fm_cv S (c_FO_scaled l dC dI o wa sa la sz s0 cI B w st ln 2 (fm_AT B 1 (c - fm_HF B 2) 0) (hB) (hs)) rfl rfl k_FO_scaled q_1_184 ⟨Nat.le_of_ble_eq_true rfl, Nat.le_of_ble_eq_true rfl⟩ (hP.sub [0, 1, 2, 3] rfl) (hK.sub [0] rfl) 0 rfl rfl rfl hl.1 rfl (Nat.le_of_ble_eq_true rfl) ⟨Nat.zero_le _, Nat.zero_le _⟩ d_FO_width_14 ?_
  exact W.iret hx hb hr (fun t ht hW => ⟨_, rfl, rfl, ht⟩) (fun q hq => by cases hq) d_FO_width_17
theorem d_FO_height_0 : decode b_FO_height 0 = .ok (.aload_n 0, 1) := by decide +kernel
theorem d_FO_height_1 : decode b_FO_height 1 = .ok (.aload_n 0, 1) := by decide +kernel
theorem d_FO_height_2 : decode b_FO_height 2 = .ok (.iconst 3, 1) := by decide +kernel
theorem d_FO_height_3 : decode b_FO_height 3 = .ok (.aload_n 0, 1) := by decide +kernel
theorem d_FO_height_4 : decode b_FO_height 4 = .ok (.iload_n 1, 1) := by decide +kernel
theorem d_FO_height_5 : decode b_FO_height 5 = .ok (.invokevirtual 67, 3) := by decide +kernel
theorem d_FO_height_8 : decode b_FO_height 8 = .ok (.invokestatic 76, 3) := by decide +kernel
theorem d_FO_height_11 : decode b_FO_height 11 = .ok (.invokevirtual 60, 3) := by decide +kernel
theorem d_FO_height_14 : decode b_FO_height 14 = .ok (.invokevirtual 73, 3) := by decide +kernel
theorem d_FO_height_17 : decode b_FO_height 17 = .ok (.ireturn, 1) := by decide +kernel
set_option maxHeartbeats 4000000 in
set_option maxRecDepth 100000 in
theorem c_FO_height (l : Launch) (dC : Nat → ClassId) (dI : Nat → Nat → Nat) (o : Nat) (wa : Nat) (sa : Nat) (la : Nat) (sz : Int32) (s0 : Nat) (cI : ClassId) (B : Nat → Nat) (w : Nat → Int32) (st : Nat → Int32) (ln : Nat → Int32) (c : Nat) (hF : fm_FO B w st ln) (h1 : fm_HF B 2 ≤ c) (h2 : c ≤ fm_HF B 3) (hz : fm_all (fm_WD B 1) (fm_size1 B) = true) (hs : s0 < 134217728) : fm_M l (dC, dI) y_FO_height w_FO_height ({ frames := 2, cells := 0, slots := 0, locals := 46 }) [.ref o, .int (nI (c))] [(o, .inr (1, [.ref wa, .ref sa, .ref la, .int (nI (fm_HF B 2)), .int (nI (fm_HF B 3)), .int (sz), .int (nI (fm_z s0)), .int (nI (fm_h s0))])), (wa, .inl (cI, 2048, .inl (w))), (sa, .inl (cI, 10, .inl (st))), (la, .inl (cI, 10, .inl (ln)))] [(cI, .int)] ((fm_sc B s0 3 (fm_pl B c 1))) := by
  refine Met.ofW (cc := b_FO_height) (maxL := 2) (ret := (some .int)) (by decide) rfl ?_
  intro pg ev s m args below meth cd s₁ BD hml hv
  obtain ⟨rfl, hP, hK⟩ := hv
  have hx := BD.exec
  have hb := BD.bytes
  have hr := BD.returns
  have hts := atoms_spec (ws := w_FO_height) BD.pre
  have ht : ∀ w ∈ fm_T, w.before _ s = true := fun w h => hts w (List.mem_cons_of_mem _ h)
  have hown : s.vm.findClass R_FO = some m.cls := findClass_of_methodNamed BD.named
  have hlocks := BD.notSynchronized
  have S : CallFix pg m cd b_FO_height 2 s _ w_FO_height R_FO := ⟨hx, hb, hml, hown, hts⟩
  have hl := lv_entry ([.ref o, .int (nI (c))]) (n := 2) (Nat.le_of_ble_eq_true rfl)
  rw [lg_entry_eq]
  generalize (lg_sl ([.ref o, .int (nI (c))]) ++ List.replicate (2 - (lg_sl ([.ref o, .int (nI (c))])).length) Slot.unset).toArray = ls at hl ⊢
  have hl : lv_has ls 2 [(0, .ref o), (1, .int (nI (c)))] := hl
  have hB : ∀ i, B i < 256 := hF.1.1
  obtain ⟨hL, hFw, hFs, hFl⟩ := id hF
  obtain ⟨-, hq, h3, h10⟩ := id hL
  have hpl := fm_pl_lt hz h1 h2 (show 1 < 4 by decide)
  refine lv_aload_n hx hb d_FO_height_0 rfl (lv_at hl 0 rfl) ?_
  refine lv_aload_n hx hb d_FO_height_1 rfl (lv_at hl 0 rfl) ?_
  refine lv_iconst (v := nI (3)) hx hb d_FO_height_2 (by decide) ?_
  refine lv_aload_n hx hb d_FO_height_3 rfl (lv_at hl 0 rfl) ?_
  refine lv_iload_n hx hb d_FO_height_4 rfl (lv_at hl 1 rfl) ?_
  refine fm_cv S (c_FO_characterN l dC dI o wa sa la sz (nI (fm_z s0)) (nI (fm_h s0)) cI B w st ln c (hF) (h1) (h2)) rfl rfl k_FO_character q_1_149 ⟨Nat.le_of_ble_eq_true rfl, Nat.le_of_ble_eq_true rfl⟩ (hP.sub [0, 1, 2, 3] rfl) (hK.sub [0] rfl) 0 rfl rfl rfl hl.1 rfl (Nat.le_of_ble_eq_true rfl) ⟨Nat.zero_le _, Nat.zero_le _⟩ d_FO_height_5 ?_
  refine fm_cs S (c_FO_heightPlace l dC dI (fm_W B 1 (c - fm_HF B 2)) ) rfl rfl k_FO_heightPlace q_2_213 ⟨Nat.le_of_ble_eq_true rfl, Nat.le_of_ble_eq_true rfl⟩ (hP.sub [] rfl) (hK.sub [] rfl) rfl hl.1 rfl (Nat.le_of_ble_eq_true rfl) ⟨Nat.zero_le _, Nat.zero_le _⟩ d_FO_height_8 ?_
  refine fm_tw (z := nI (fm_AT B 1 (c - fm_HF B 2) 1 / 16)) (by simp only [fm_by_W hB _ _ (show 0 < 4 by decide), fm_by_W hB _ _ (show 1 < 4 by decide), fm_by_W hB _ _ (show 2 < 4 by decide), fm_by_W hB _ _ (show 3 < 4 by decide)]) ?_
  have f0_8 := fm_AT_lt hB 1 (c - fm_HF B 2) 1
  refine fm_cv S (c_FO_wordN l dC dI o wa sa la sz (nI (fm_z s0)) (nI (fm_h s0)) cI B w st ln 3 (fm_AT B 1 (c - fm_HF B 2) 1 / 16) (hF) (by decide) (hpl)) rfl rfl k_FO_word q_1_153 ⟨Nat.le_of_ble_eq_true rfl, Nat.le_of_ble_eq_true rfl⟩ (hP.sub [0, 1, 2, 3] rfl) (hK.sub [0] rfl) 0 rfl rfl rfl hl.1 rfl (Nat.le_of_ble_eq_true rfl) ⟨Nat.zero_le _, Nat.zero_le _⟩ d_FO_height_11 ?_
  refine fm_cv S (c_FO_scaled l dC dI o wa sa la sz s0 cI B w st ln 3 (fm_AT B 1 (c - fm_HF B 2) 1 / 16) (hB) (hs)) rfl rfl k_FO_scaled q_1_184 ⟨Nat.le_of_ble_eq_true rfl, Nat.le_of_ble_eq_true rfl⟩ (hP.sub [0, 1, 2, 3] rfl) (hK.sub [0] rfl) 0 rfl rfl rfl hl.1 rfl (Nat.le_of_ble_eq_true rfl) ⟨Nat.zero_le _, Nat.zero_le _⟩ d_FO_height_14 ?_
  exact W.iret hx hb hr (fun t ht hW => ⟨_, rfl, rfl, ht⟩) (fun q hq => by cases hq) d_FO_height_17
theorem d_FO_depth_0 : decode b_FO_depth 0 = .ok (.aload_n 0, 1) := by decide +kernel
theorem d_FO_depth_1 : decode b_FO_depth 1 = .ok (.aload_n 0, 1) := by decide +kernel
theorem d_FO_depth_2 : decode b_FO_depth 2 = .ok (.iconst 4, 1) := by decide +kernel
theorem d_FO_depth_3 : decode b_FO_depth 3 = .ok (.aload_n 0, 1) := by decide +kernel
theorem d_FO_depth_4 : decode b_FO_depth 4 = .ok (.iload_n 1, 1) := by decide +kernel
theorem d_FO_depth_5 : decode b_FO_depth 5 = .ok (.invokevirtual 67, 3) := by decide +kernel
theorem d_FO_depth_8 : decode b_FO_depth 8 = .ok (.invokestatic 79, 3) := by decide +kernel
theorem d_FO_depth_11 : decode b_FO_depth 11 = .ok (.invokevirtual 60, 3) := by decide +kernel
theorem d_FO_depth_14 : decode b_FO_depth 14 = .ok (.invokevirtual 73, 3) := by decide +kernel
theorem d_FO_depth_17 : decode b_FO_depth 17 = .ok (.ireturn, 1) := by decide +kernel
set_option maxHeartbeats 4000000 in
set_option maxRecDepth 100000 in
theorem c_FO_depth (l : Launch) (dC : Nat → ClassId) (dI : Nat → Nat → Nat) (o : Nat) (wa : Nat) (sa : Nat) (la : Nat) (sz : Int32) (s0 : Nat) (cI : ClassId) (B : Nat → Nat) (w : Nat → Int32) (st : Nat → Int32) (ln : Nat → Int32) (c : Nat) (hF : fm_FO B w st ln) (h1 : fm_HF B 2 ≤ c) (h2 : c ≤ fm_HF B 3) (hz : fm_all (fm_WD B 1) (fm_size1 B) = true) (hs : s0 < 134217728) : fm_M l (dC, dI) y_FO_depth w_FO_depth ({ frames := 2, cells := 0, slots := 0, locals := 46 }) [.ref o, .int (nI (c))] [(o, .inr (1, [.ref wa, .ref sa, .ref la, .int (nI (fm_HF B 2)), .int (nI (fm_HF B 3)), .int (sz), .int (nI (fm_z s0)), .int (nI (fm_h s0))])), (wa, .inl (cI, 2048, .inl (w))), (sa, .inl (cI, 10, .inl (st))), (la, .inl (cI, 10, .inl (ln)))] [(cI, .int)] ((fm_sc B s0 4 (fm_pl B c 2))) := by
  refine Met.ofW (cc := b_FO_depth) (maxL := 2) (ret := (some .int)) (by decide) rfl ?_
  intro pg ev s m args below meth cd s₁ BD hml hv
  obtain ⟨rfl, hP, hK⟩ := hv
  have hx := BD.exec
  have hb := BD.bytes
  have hr := BD.returns
  have hts := atoms_spec (ws := w_FO_depth) BD.pre
  have ht : ∀ w ∈ fm_T, w.before _ s = true := fun w h => hts w (List.mem_cons_of_mem _ h)
  have hown : s.vm.findClass R_FO = some m.cls := findClass_of_methodNamed BD.named
  have hlocks := BD.notSynchronized
  have S : CallFix pg m cd b_FO_depth 2 s _ w_FO_depth R_FO := ⟨hx, hb, hml, hown, hts⟩
  have hl := lv_entry ([.ref o, .int (nI (c))]) (n := 2) (Nat.le_of_ble_eq_true rfl)
  rw [lg_entry_eq]
  generalize (lg_sl ([.ref o, .int (nI (c))]) ++ List.replicate (2 - (lg_sl ([.ref o, .int (nI (c))])).length) Slot.unset).toArray = ls at hl ⊢
  have hl : lv_has ls 2 [(0, .ref o), (1, .int (nI (c)))] := hl
  have hB : ∀ i, B i < 256 := hF.1.1
  obtain ⟨hL, hFw, hFs, hFl⟩ := id hF
  obtain ⟨-, hq, h3, h10⟩ := id hL
  have hpl := fm_pl_lt hz h1 h2 (show 2 < 4 by decide)
  refine lv_aload_n hx hb d_FO_depth_0 rfl (lv_at hl 0 rfl) ?_
  refine lv_aload_n hx hb d_FO_depth_1 rfl (lv_at hl 0 rfl) ?_
  refine lv_iconst (v := nI (4)) hx hb d_FO_depth_2 (by decide) ?_
  refine lv_aload_n hx hb d_FO_depth_3 rfl (lv_at hl 0 rfl) ?_
  refine lv_iload_n hx hb d_FO_depth_4 rfl (lv_at hl 1 rfl) ?_
  refine fm_cv S (c_FO_characterN l dC dI o wa sa la sz (nI (fm_z s0)) (nI (fm_h s0)) cI B w st ln c (hF) (h1) (h2)) rfl rfl k_FO_character q_1_149 ⟨Nat.le_of_ble_eq_true rfl, Nat.le_of_ble_eq_true rfl⟩ (hP.sub [0, 1, 2, 3] rfl) (hK.sub [0] rfl) 0 rfl rfl rfl hl.1 rfl (Nat.le_of_ble_eq_true rfl) ⟨Nat.zero_le _, Nat.zero_le _⟩ d_FO_depth_5 ?_
  refine fm_cs S (c_FO_depthPlace l dC dI (fm_W B 1 (c - fm_HF B 2)) ) rfl rfl k_FO_depthPlace q_2_218 ⟨Nat.le_of_ble_eq_true rfl, Nat.le_of_ble_eq_true rfl⟩ (hP.sub [] rfl) (hK.sub [] rfl) rfl hl.1 rfl (Nat.le_of_ble_eq_true rfl) ⟨Nat.zero_le _, Nat.zero_le _⟩ d_FO_depth_8 ?_
  refine fm_tw (z := nI (fm_AT B 1 (c - fm_HF B 2) 1 % 16)) (by simp only [fm_by_W hB _ _ (show 0 < 4 by decide), fm_by_W hB _ _ (show 1 < 4 by decide), fm_by_W hB _ _ (show 2 < 4 by decide), fm_by_W hB _ _ (show 3 < 4 by decide)]) ?_
  have f0_8 := fm_AT_lt hB 1 (c - fm_HF B 2) 1
  refine fm_cv S (c_FO_wordN l dC dI o wa sa la sz (nI (fm_z s0)) (nI (fm_h s0)) cI B w st ln 4 (fm_AT B 1 (c - fm_HF B 2) 1 % 16) (hF) (by decide) (hpl)) rfl rfl k_FO_word q_1_153 ⟨Nat.le_of_ble_eq_true rfl, Nat.le_of_ble_eq_true rfl⟩ (hP.sub [0, 1, 2, 3] rfl) (hK.sub [0] rfl) 0 rfl rfl rfl hl.1 rfl (Nat.le_of_ble_eq_true rfl) ⟨Nat.zero_le _, Nat.zero_le _⟩ d_FO_depth_11 ?_
  refine fm_cv S (c_FO_scaled l dC dI o wa sa la sz s0 cI B w st ln 4 (fm_AT B 1 (c - fm_HF B 2) 1 % 16) (hB) (hs)) rfl rfl k_FO_scaled q_1_184 ⟨Nat.le_of_ble_eq_true rfl, Nat.le_of_ble_eq_true rfl⟩ (hP.sub [0, 1, 2, 3] rfl) (hK.sub [0] rfl) 0 rfl rfl rfl hl.1 rfl (Nat.le_of_ble_eq_true rfl) ⟨Nat.zero_le _, Nat.zero_le _⟩ d_FO_depth_14 ?_
  exact W.iret hx hb hr (fun t ht hW => ⟨_, rfl, rfl, ht⟩) (fun q hq => by cases hq) d_FO_depth_17
theorem d_FO_italic_0 : decode b_FO_italic 0 = .ok (.aload_n 0, 1) := by decide +kernel
theorem d_FO_italic_1 : decode b_FO_italic 1 = .ok (.aload_n 0, 1) := by decide +kernel
theorem d_FO_italic_2 : decode b_FO_italic 2 = .ok (.iconst 5, 1) := by decide +kernel
theorem d_FO_italic_3 : decode b_FO_italic 3 = .ok (.aload_n 0, 1) := by decide +kernel
theorem d_FO_italic_4 : decode b_FO_italic 4 = .ok (.iload_n 1, 1) := by decide +kernel
theorem d_FO_italic_5 : decode b_FO_italic 5 = .ok (.invokevirtual 67, 3) := by decide +kernel
theorem d_FO_italic_8 : decode b_FO_italic 8 = .ok (.invokestatic 82, 3) := by decide +kernel
theorem d_FO_italic_11 : decode b_FO_italic 11 = .ok (.invokevirtual 60, 3) := by decide +kernel
theorem d_FO_italic_14 : decode b_FO_italic 14 = .ok (.invokevirtual 73, 3) := by decide +kernel
theorem d_FO_italic_17 : decode b_FO_italic 17 = .ok (.ireturn, 1) := by decide +kernel
set_option maxHeartbeats 4000000 in
set_option maxRecDepth 100000 in
theorem c_FO_italic (l : Launch) (dC : Nat → ClassId) (dI : Nat → Nat → Nat) (o : Nat) (wa : Nat) (sa : Nat) (la : Nat) (sz : Int32) (s0 : Nat) (cI : ClassId) (B : Nat → Nat) (w : Nat → Int32) (st : Nat → Int32) (ln : Nat → Int32) (c : Nat) (hF : fm_FO B w st ln) (h1 : fm_HF B 2 ≤ c) (h2 : c ≤ fm_HF B 3) (hz : fm_all (fm_WD B 1) (fm_size1 B) = true) (hs : s0 < 134217728) : fm_M l (dC, dI) y_FO_italic w_FO_italic ({ frames := 2, cells := 0, slots := 0, locals := 46 }) [.ref o, .int (nI (c))] [(o, .inr (1, [.ref wa, .ref sa, .ref la, .int (nI (fm_HF B 2)), .int (nI (fm_HF B 3)), .int (sz), .int (nI (fm_z s0)), .int (nI (fm_h s0))])), (wa, .inl (cI, 2048, .inl (w))), (sa, .inl (cI, 10, .inl (st))), (la, .inl (cI, 10, .inl (ln)))] [(cI, .int)] ((fm_sc B s0 5 (fm_pl B c 3))) := by
  refine Met.ofW (cc := b_FO_italic) (maxL := 2) (ret := (some .int)) (by decide) rfl ?_
  intro pg ev s m args below meth cd s₁ BD hml hv
  obtain ⟨rfl, hP, hK⟩ := hv
  have hx := BD.exec
  have hb := BD.bytes
  have hr := BD.returns
  have hts := atoms_spec (ws := w_FO_italic) BD.pre
  have ht : ∀ w ∈ fm_T, w.before _ s = true := fun w h => hts w (List.mem_cons_of_mem _ h)
  have hown : s.vm.findClass R_FO = some m.cls := findClass_of_methodNamed BD.named
  have hlocks := BD.notSynchronized
  have S : CallFix pg m cd b_FO_italic 2 s _ w_FO_italic R_FO := ⟨hx, hb, hml, hown, hts⟩
  have hl := lv_entry ([.ref o, .int (nI (c))]) (n := 2) (Nat.le_of_ble_eq_true rfl)
  rw [lg_entry_eq]
  generalize (lg_sl ([.ref o, .int (nI (c))]) ++ List.replicate (2 - (lg_sl ([.ref o, .int (nI (c))])).length) Slot.unset).toArray = ls at hl ⊢
  have hl : lv_has ls 2 [(0, .ref o), (1, .int (nI (c)))] := hl
  have hB : ∀ i, B i < 256 := hF.1.1
  obtain ⟨hL, hFw, hFs, hFl⟩ := id hF
  obtain ⟨-, hq, h3, h10⟩ := id hL
  have hpl := fm_pl_lt hz h1 h2 (show 3 < 4 by decide)
  refine lv_aload_n hx hb d_FO_italic_0 rfl (lv_at hl 0 rfl) ?_
  refine lv_aload_n hx hb d_FO_italic_1 rfl (lv_at hl 0 rfl) ?_
  refine lv_iconst (v := nI (5)) hx hb d_FO_italic_2 (by decide) ?_
  refine lv_aload_n hx hb d_FO_italic_3 rfl (lv_at hl 0 rfl) ?_
  refine lv_iload_n hx hb d_FO_italic_4 rfl (lv_at hl 1 rfl) ?_
  refine fm_cv S (c_FO_characterN l dC dI o wa sa la sz (nI (fm_z s0)) (nI (fm_h s0)) cI B w st ln c (hF) (h1) (h2)) rfl rfl k_FO_character q_1_149 ⟨Nat.le_of_ble_eq_true rfl, Nat.le_of_ble_eq_true rfl⟩ (hP.sub [0, 1, 2, 3] rfl) (hK.sub [0] rfl) 0 rfl rfl rfl hl.1 rfl (Nat.le_of_ble_eq_true rfl) ⟨Nat.zero_le _, Nat.zero_le _⟩ d_FO_italic_5 ?_
  refine fm_cs S (c_FO_italicPlace l dC dI (fm_W B 1 (c - fm_HF B 2)) ) rfl rfl k_FO_italicPlace q_2_223 ⟨Nat.le_of_ble_eq_true rfl, Nat.le_of_ble_eq_true rfl⟩ (hP.sub [] rfl) (hK.sub [] rfl) rfl hl.1 rfl (Nat.le_of_ble_eq_true rfl) ⟨Nat.zero_le _, Nat.zero_le _⟩ d_FO_italic_8 ?_
  refine fm_tw (z := nI (fm_AT B 1 (c - fm_HF B 2) 2 / 4)) (by simp only [fm_by_W hB _ _ (show 0 < 4 by decide), fm_by_W hB _ _ (show 1 < 4 by decide), fm_by_W hB _ _ (show 2 < 4 by decide), fm_by_W hB _ _ (show 3 < 4 by decide)]) ?_
  have f0_8 := fm_AT_lt hB 1 (c - fm_HF B 2) 2
  refine fm_cv S (c_FO_wordN l dC dI o wa sa la sz (nI (fm_z s0)) (nI (fm_h s0)) cI B w st ln 5 (fm_AT B 1 (c - fm_HF B 2) 2 / 4) (hF) (by decide) (hpl)) rfl rfl k_FO_word q_1_153 ⟨Nat.le_of_ble_eq_true rfl, Nat.le_of_ble_eq_true rfl⟩ (hP.sub [0, 1, 2, 3] rfl) (hK.sub [0] rfl) 0 rfl rfl rfl hl.1 rfl (Nat.le_of_ble_eq_true rfl) ⟨Nat.zero_le _, Nat.zero_le _⟩ d_FO_italic_11 ?_
  refine fm_cv S (c_FO_scaled l dC dI o wa sa la sz s0 cI B w st ln 5 (fm_AT B 1 (c - fm_HF B 2) 2 / 4) (hB) (hs)) rfl rfl k_FO_scaled q_1_184 ⟨Nat.le_of_ble_eq_true rfl, Nat.le_of_ble_eq_true rfl⟩ (hP.sub [0, 1, 2, 3] rfl) (hK.sub [0] rfl) 0 rfl rfl rfl hl.1 rfl (Nat.le_of_ble_eq_true rfl) ⟨Nat.zero_le _, Nat.zero_le _⟩ d_FO_italic_14 ?_
  exact W.iret hx hb hr (fun t ht hW => ⟨_, rfl, rfl, ht⟩) (fun q hq => by cases hq) d_FO_italic_17
theorem d_FO_edge_0 : decode b_FO_edge 0 = .ok (.aload_n 0, 1) := by decide +kernel
theorem d_FO_edge_1 : decode b_FO_edge 1 = .ok (.bipush 6, 2) := by decide +kernel
theorem d_FO_edge_3 : decode b_FO_edge 3 = .ok (.iconst 0, 1) := by decide +kernel
theorem d_FO_edge_4 : decode b_FO_edge 4 = .ok (.invokevirtual 60, 3) := by decide +kernel
theorem d_FO_edge_7 : decode b_FO_edge 7 = .ok (.istore_n 1, 1) := by decide +kernel
theorem d_FO_edge_8 : decode b_FO_edge 8 = .ok (.iload_n 1, 1) := by decide +kernel
theorem d_FO_edge_9 : decode b_FO_edge 9 = .ok (.iconst 0, 1) := by decide +kernel
theorem d_FO_edge_10 : decode b_FO_edge 10 = .ok (.invokestatic 64, 3) := by decide +kernel
theorem d_FO_edge_13 : decode b_FO_edge 13 = .ok (.sipush 255, 3) := by decide +kernel
theorem d_FO_edge_16 : decode b_FO_edge 16 = .ok (.if_icmp .ne 11, 3) := by decide +kernel
theorem d_FO_edge_19 : decode b_FO_edge 19 = .ok (.iload_n 1, 1) := by decide +kernel
theorem d_FO_edge_20 : decode b_FO_edge 20 = .ok (.iconst 1, 1) := by decide +kernel
theorem d_FO_edge_21 : decode b_FO_edge 21 = .ok (.invokestatic 64, 3) := by decide +kernel
theorem d_FO_edge_24 : decode b_FO_edge 24 = .ok (.goto 4, 3) := by decide +kernel
theorem d_FO_edge_27 : decode b_FO_edge 27 = .ok (.iconst (-1), 1) := by decide +kernel
theorem d_FO_edge_28 : decode b_FO_edge 28 = .ok (.ireturn, 1) := by decide +kernel
set_option maxHeartbeats 4000000 in
set_option maxRecDepth 100000 in
theorem c_FO_edge (l : Launch) (dC : Nat → ClassId) (dI : Nat → Nat → Nat) (o : Nat) (wa : Nat) (sa : Nat) (la : Nat) (sz : Int32) (sc : Int32) (hv : Int32) (cI : ClassId) (B : Nat → Nat) (w : Nat → Int32) (st : Nat → Int32) (ln : Nat → Int32) (hF : fm_FO B w st ln) : fm_M l (dC, dI) y_FO_edge w_FO_edge ({ frames := 1, cells := 0, slots := 0, locals := 23 }) [.ref o] [(o, .inr (1, [.ref wa, .ref sa, .ref la, .int (nI (fm_HF B 2)), .int (nI (fm_HF B 3)), .int (sz), .int (sc), .int (hv)])), (wa, .inl (cI, 2048, .inl (w))), (sa, .inl (cI, 10, .inl (st))), (la, .inl (cI, 10, .inl (ln)))] [(cI, .int)] ((fm_eg B)) := by
  refine Met.ofW (cc := b_FO_edge) (maxL := 2) (ret := (some .int)) (by decide) rfl ?_
  intro pg ev s m args below meth cd s₁ BD hml hv
  obtain ⟨rfl, hP, hK⟩ := hv
  have hx := BD.exec
  have hb := BD.bytes
  have hr := BD.returns
  have hts := atoms_spec (ws := w_FO_edge) BD.pre
  have ht : ∀ w ∈ fm_T, w.before _ s = true := fun w h => hts w (List.mem_cons_of_mem _ h)
  have hown : s.vm.findClass R_FO = some m.cls := findClass_of_methodNamed BD.named
  have hlocks := BD.notSynchronized
  have S : CallFix pg m cd b_FO_edge 2 s _ w_FO_edge R_FO := ⟨hx, hb, hml, hown, hts⟩
  have hl := lv_entry ([.ref o]) (n := 2) (Nat.le_of_ble_eq_true rfl)
  rw [lg_entry_eq]
  generalize (lg_sl ([.ref o]) ++ List.replicate (2 - (lg_sl ([.ref o])).length) Slot.unset).toArray = ls at hl ⊢
  have hl : lv_has ls 2 [(0, .ref o)] := hl
  have hB : ∀ i, B i < 256 := hF.1.1
  obtain ⟨hL, hFw, hFs, hFl⟩ := id hF
  obtain ⟨-, hq, h3, h10⟩ := id hL
  refine lv_aload_n hx hb d_FO_edge_0 rfl (lv_at hl 0 rfl) ?_
  refine lv_bipush (v := nI (6)) hx hb d_FO_edge_1 (by decide) ?_
  refine lv_iconst (v := nI (0)) hx hb d_FO_edge_3 (by decide) ?_
  refine fm_cv S (c_FO_word l dC dI o wa sa la sz sc hv cI B w st ln 6 (nI (0)) (hF) (by omega)) rfl rfl k_FO_word q_1_153 ⟨Nat.le_of_ble_eq_true rfl, Nat.le_of_ble_eq_true rfl⟩ (hP.sub [0, 1, 2, 3] rfl) (hK.sub [0] rfl) 0 rfl rfl rfl hl.1 rfl (Nat.le_of_ble_eq_true rfl) ⟨Nat.zero_le _, Nat.zero_le _⟩ d_FO_edge_4 ?_
  refine lv_istore_n (lv' := [(1, .int (fm_wd B 6 (nI (0)))), (0, .ref o)]) hx hb d_FO_edge_7 rfl hl (by decide) rfl (fun ls hl => ?_)
  refine lv_iload_n hx hb d_FO_edge_8 rfl (lv_at hl 0 rfl) ?_
  refine lv_iconst (v := nI (0)) hx hb d_FO_edge_9 (by decide) ?_
  refine fm_cs S (c_FO_byteOf l dC dI (fm_wd B 6 (nI (0))) 0 (by omega)) rfl rfl k_FO_byteOf q_1_189 ⟨Nat.le_of_ble_eq_true rfl, Nat.le_of_ble_eq_true rfl⟩ (hP.sub [] rfl) (hK.sub [] rfl) rfl hl.1 rfl (Nat.le_of_ble_eq_true rfl) ⟨Nat.zero_le _, Nat.zero_le _⟩ d_FO_edge_10 ?_
  have f0_10 := fm_by_lt (fm_wd B 6 (nI (0))) 0
  refine lv_sipush (v := nI (255)) hx hb d_FO_edge_13 (by decide) ?_
  refine lv_icmp_ne (tgt := 27) hx hb d_FO_edge_16 (by decide) (fun c0 => ?_) (fun c0 => ?_)
  · have c_16 : ¬ (fm_by (fm_wd B 6 (nI (0))) 0 = 255) := fun z => c0 ((nI_eq (a := fm_by (fm_wd B 6 (nI (0))) 0) (b := 255) (by omega) (by omega)).mpr z)
    refine lv_iconst (v := ((-1))) hx hb d_FO_edge_27 (by decide) ?_
    exact W.iret hx hb hr (fun t ht hW => ⟨_, rfl, by rw [fm_eg_wd hB, if_neg c_16], ht⟩) (fun q hq => by cases hq) d_FO_edge_28
  · have c_16 : fm_by (fm_wd B 6 (nI (0))) 0 = 255 := (nI_eq (a := fm_by (fm_wd B 6 (nI (0))) 0) (b := 255) (by omega) (by omega)).mp c0
    refine lv_iload_n hx hb d_FO_edge_19 rfl (lv_at hl 0 rfl) ?_
    refine lv_iconst (v := nI (1)) hx hb d_FO_edge_20 (by decide) ?_
    refine fm_cs S (c_FO_byteOf l dC dI (fm_wd B 6 (nI (0))) 1 (by omega)) rfl rfl k_FO_byteOf q_1_189 ⟨Nat.le_of_ble_eq_true rfl, Nat.le_of_ble_eq_true rfl⟩ (hP.sub [] rfl) (hK.sub [] rfl) rfl hl.1 rfl (Nat.le_of_ble_eq_true rfl) ⟨Nat.zero_le _, Nat.zero_le _⟩ d_FO_edge_21 ?_
    have f0_21 := fm_by_lt (fm_wd B 6 (nI (0))) 1
    refine lv_goto (tgt := 28) hx hb d_FO_edge_24 (by decide) ?_
    exact W.iret hx hb hr (fun t ht hW => ⟨_, rfl, by rw [fm_eg_wd hB, if_pos c_16], ht⟩) (fun q hq => by cases hq) d_FO_edge_28
theorem d_FO_edgeStart_0 : decode b_FO_edgeStart 0 = .ok (.aload_n 0, 1) := by decide +kernel
theorem d_FO_edgeStart_1 : decode b_FO_edgeStart 1 = .ok (.bipush 6, 2) := by decide +kernel
theorem d_FO_edgeStart_3 : decode b_FO_edgeStart 3 = .ok (.aload_n 0, 1) := by decide +kernel
theorem d_FO_edgeStart_4 : decode b_FO_edgeStart 4 = .ok (.bipush 6, 2) := by decide +kernel
theorem d_FO_edgeStart_6 : decode b_FO_edgeStart 6 = .ok (.invokevirtual 85, 3) := by decide +kernel
theorem d_FO_edgeStart_9 : decode b_FO_edgeStart 9 = .ok (.iconst 1, 1) := by decide +kernel
theorem d_FO_edgeStart_10 : decode b_FO_edgeStart 10 = .ok (.isub, 1) := by decide +kernel
theorem d_FO_edgeStart_11 : decode b_FO_edgeStart 11 = .ok (.invokevirtual 60, 3) := by decide +kernel
theorem d_FO_edgeStart_14 : decode b_FO_edgeStart 14 = .ok (.istore_n 1, 1) := by decide +kernel
theorem d_FO_edgeStart_15 : decode b_FO_edgeStart 15 = .ok (.iload_n 1, 1) := by decide +kernel
theorem d_FO_edgeStart_16 : decode b_FO_edgeStart 16 = .ok (.iconst 0, 1) := by decide +kernel
theorem d_FO_edgeStart_17 : decode b_FO_edgeStart 17 = .ok (.invokestatic 64, 3) := by decide +kernel
theorem d_FO_edgeStart_20 : decode b_FO_edgeStart 20 = .ok (.sipush 255, 3) := by decide +kernel
theorem d_FO_edgeStart_23 : decode b_FO_edgeStart 23 = .ok (.if_icmp .ne 10, 3) := by decide +kernel
theorem d_FO_edgeStart_26 : decode b_FO_edgeStart 26 = .ok (.iload_n 1, 1) := by decide +kernel
theorem d_FO_edgeStart_27 : decode b_FO_edgeStart 27 = .ok (.invokestatic 88, 3) := by decide +kernel
theorem d_FO_edgeStart_30 : decode b_FO_edgeStart 30 = .ok (.goto 4, 3) := by decide +kernel
theorem d_FO_edgeStart_33 : decode b_FO_edgeStart 33 = .ok (.iconst (-1), 1) := by decide +kernel
theorem d_FO_edgeStart_34 : decode b_FO_edgeStart 34 = .ok (.ireturn, 1) := by decide +kernel
set_option maxHeartbeats 4000000 in
set_option maxRecDepth 100000 in
theorem c_FO_edgeStart (l : Launch) (dC : Nat → ClassId) (dI : Nat → Nat → Nat) (o : Nat) (wa : Nat) (sa : Nat) (la : Nat) (sz : Int32) (sc : Int32) (hv : Int32) (cI : ClassId) (B : Nat → Nat) (w : Nat → Int32) (st : Nat → Int32) (ln : Nat → Int32) (hF : fm_FO B w st ln) : fm_M l (dC, dI) y_FO_edgeStart w_FO_edgeStart ({ frames := 1, cells := 0, slots := 0, locals := 23 }) [.ref o] [(o, .inr (1, [.ref wa, .ref sa, .ref la, .int (nI (fm_HF B 2)), .int (nI (fm_HF B 3)), .int (sz), .int (sc), .int (hv)])), (wa, .inl (cI, 2048, .inl (w))), (sa, .inl (cI, 10, .inl (st))), (la, .inl (cI, 10, .inl (ln)))] [(cI, .int)] ((fm_ep B)) := by
  refine Met.ofW (cc := b_FO_edgeStart) (maxL := 2) (ret := (some .int)) (by decide) rfl ?_
  intro pg ev s m args below meth cd s₁ BD hml hv
  obtain ⟨rfl, hP, hK⟩ := hv
  have hx := BD.exec
  have hb := BD.bytes
  have hr := BD.returns
  have hts := atoms_spec (ws := w_FO_edgeStart) BD.pre
  have ht : ∀ w ∈ fm_T, w.before _ s = true := fun w h => hts w (List.mem_cons_of_mem _ h)
  have hown : s.vm.findClass R_FO = some m.cls := findClass_of_methodNamed BD.named
  have hlocks := BD.notSynchronized
  have S : CallFix pg m cd b_FO_edgeStart 2 s _ w_FO_edgeStart R_FO := ⟨hx, hb, hml, hown, hts⟩
  have hl := lv_entry ([.ref o]) (n := 2) (Nat.le_of_ble_eq_true rfl)
  rw [lg_entry_eq]
  generalize (lg_sl ([.ref o]) ++ List.replicate (2 - (lg_sl ([.ref o])).length) Slot.unset).toArray = ls at hl ⊢
  have hl : lv_has ls 2 [(0, .ref o)] := hl
  have hB : ∀ i, B i < 256 := hF.1.1
  obtain ⟨hL, hFw, hFs, hFl⟩ := id hF
  obtain ⟨-, hq, h3, h10⟩ := id hL
  refine lv_aload_n hx hb d_FO_edgeStart_0 rfl (lv_at hl 0 rfl) ?_
  refine lv_bipush (v := nI (6)) hx hb d_FO_edgeStart_1 (by decide) ?_
  refine lv_aload_n hx hb d_FO_edgeStart_3 rfl (lv_at hl 0 rfl) ?_
  refine lv_bipush (v := nI (6)) hx hb d_FO_edgeStart_4 (by decide) ?_
  refine fm_cv S (c_FO_lengthOfN l dC dI o wa sa la sz sc hv cI B w st ln 6 (hF) (by omega)) rfl rfl k_FO_lengthOf q_2_178 ⟨Nat.le_of_ble_eq_true rfl, Nat.le_of_ble_eq_true rfl⟩ (hP.sub [0, 1, 2, 3] rfl) (hK.sub [0] rfl) 0 rfl rfl rfl hl.1 rfl (Nat.le_of_ble_eq_true rfl) ⟨Nat.zero_le _, Nat.zero_le _⟩ d_FO_edgeStart_6 ?_
  have f0_6 := fm_WD_le hB 6
  refine lv_iconst (v := nI (1)) hx hb d_FO_edgeStart_9 (by decide) ?_
  refine lv_isub hx hb d_FO_edgeStart_10 ?_
  refine fm_tw (z := (nI (fm_WD B 6) - nI 1)) (rfl) ?_
  refine fm_cv S (c_FO_word l dC dI o wa sa la sz sc hv cI B w st ln 6 (nI (fm_WD B 6) - nI 1) (hF) (by omega)) rfl rfl k_FO_word q_1_153 ⟨Nat.le_of_ble_eq_true rfl, Nat.le_of_ble_eq_true rfl⟩ (hP.sub [0, 1, 2, 3] rfl) (hK.sub [0] rfl) 0 rfl rfl rfl hl.1 rfl (Nat.le_of_ble_eq_true rfl) ⟨Nat.zero_le _, Nat.zero_le _⟩ d_FO_edgeStart_11 ?_
  refine lv_istore_n (lv' := [(1, .int (fm_wd B 6 (nI (fm_WD B 6) - nI 1))), (0, .ref o)]) hx hb d_FO_edgeStart_14 rfl hl (by decide) rfl (fun ls hl => ?_)
  refine lv_iload_n hx hb d_FO_edgeStart_15 rfl (lv_at hl 0 rfl) ?_
  refine lv_iconst (v := nI (0)) hx hb d_FO_edgeStart_16 (by decide) ?_
  refine fm_cs S (c_FO_byteOf l dC dI (fm_wd B 6 (nI (fm_WD B 6) - nI 1)) 0 (by omega)) rfl rfl k_FO_byteOf q_1_189 ⟨Nat.le_of_ble_eq_true rfl, Nat.le_of_ble_eq_true rfl⟩ (hP.sub [] rfl) (hK.sub [] rfl) rfl hl.1 rfl (Nat.le_of_ble_eq_true rfl) ⟨Nat.zero_le _, Nat.zero_le _⟩ d_FO_edgeStart_17 ?_
  have f0_17 := fm_by_lt (fm_wd B 6 (nI (fm_WD B 6) - nI 1)) 0
  refine lv_sipush (v := nI (255)) hx hb d_FO_edgeStart_20 (by decide) ?_
  refine lv_icmp_ne (tgt := 33) hx hb d_FO_edgeStart_23 (by decide) (fun c0 => ?_) (fun c0 => ?_)
  · have c_23 : ¬ (fm_by (fm_wd B 6 (nI (fm_WD B 6) - nI 1)) 0 = 255) := fun z => c0 ((nI_eq (a := fm_by (fm_wd B 6 (nI (fm_WD B 6) - nI 1)) 0) (b := 255) (by omega) (by omega)).mpr z)
    refine lv_iconst (v := ((-1))) hx hb d_FO_edgeStart_33 (by decide) ?_
    exact W.iret hx hb hr (fun t ht hW => ⟨_, rfl, by rw [fm_ep_wd hB, if_neg c_23], ht⟩) (fun q hq => by cases hq) d_FO_edgeStart_34
  · have c_23 : fm_by (fm_wd B 6 (nI (fm_WD B 6) - nI 1)) 0 = 255 := (nI_eq (a := fm_by (fm_wd B 6 (nI (fm_WD B 6) - nI 1)) 0) (b := 255) (by omega) (by omega)).mp c0
    refine lv_iload_n hx hb d_FO_edgeStart_26 rfl (lv_at hl 0 rfl) ?_
    refine fm_cs S (c_FO_target l dC dI (fm_wd B 6 (nI (fm_WD B 6) - nI 1)) ) rfl rfl k_FO_target q_2_179 ⟨Nat.le_of_ble_eq_true rfl, Nat.le_of_ble_eq_true rfl⟩ (hP.sub [] rfl) (hK.sub [] rfl) rfl hl.1 rfl (Nat.le_of_ble_eq_true rfl) ⟨Nat.zero_le _, Nat.zero_le _⟩ d_FO_edgeStart_27 ?_
    have f0_27 := fm_by_lt (fm_wd B 6 (nI (fm_WD B 6) - nI 1)) 2
    have f1_27 := fm_by_lt (fm_wd B 6 (nI (fm_WD B 6) - nI 1)) 3
    refine lv_goto (tgt := 34) hx hb d_FO_edgeStart_30 (by decide) ?_
    exact W.iret hx hb hr (fun t ht hW => ⟨_, rfl, by rw [fm_ep_wd hB, if_pos c_23], ht⟩) (fun q hq => by cases hq) d_FO_edgeStart_34
theorem d_FO_programStart_0 : decode b_FO_programStart 0 = .ok (.iload_n 1, 1) := by decide +kernel
theorem d_FO_programStart_1 : decode b_FO_programStart 1 = .ok (.sipush 256, 3) := by decide +kernel
theorem d_FO_programStart_4 : decode b_FO_programStart 4 = .ok (.if_icmp .ne 10, 3) := by decide +kernel
theorem d_FO_programStart_7 : decode b_FO_programStart 7 = .ok (.aload_n 0, 1) := by decide +kernel
theorem d_FO_programStart_8 : decode b_FO_programStart 8 = .ok (.invokevirtual 101, 3) := by decide +kernel
theorem d_FO_programStart_11 : decode b_FO_programStart 11 = .ok (.goto 11, 3) := by decide +kernel
theorem d_FO_programStart_14 : decode b_FO_programStart 14 = .ok (.aload_n 0, 1) := by decide +kernel
theorem d_FO_programStart_15 : decode b_FO_programStart 15 = .ok (.iload_n 1, 1) := by decide +kernel
theorem d_FO_programStart_16 : decode b_FO_programStart 16 = .ok (.invokevirtual 67, 3) := by decide +kernel
theorem d_FO_programStart_19 : decode b_FO_programStart 19 = .ok (.invokestatic 104, 3) := by decide +kernel
theorem d_FO_programStart_22 : decode b_FO_programStart 22 = .ok (.istore_n 2, 1) := by decide +kernel
theorem d_FO_programStart_23 : decode b_FO_programStart 23 = .ok (.aload_n 0, 1) := by decide +kernel
theorem d_FO_programStart_24 : decode b_FO_programStart 24 = .ok (.bipush 6, 2) := by decide +kernel
theorem d_FO_programStart_26 : decode b_FO_programStart 26 = .ok (.iload_n 2, 1) := by decide +kernel
theorem d_FO_programStart_27 : decode b_FO_programStart 27 = .ok (.invokevirtual 60, 3) := by decide +kernel
theorem d_FO_programStart_30 : decode b_FO_programStart 30 = .ok (.istore_n 3, 1) := by decide +kernel
theorem d_FO_programStart_31 : decode b_FO_programStart 31 = .ok (.iload_n 3, 1) := by decide +kernel
theorem d_FO_programStart_32 : decode b_FO_programStart 32 = .ok (.iconst 0, 1) := by decide +kernel
theorem d_FO_programStart_33 : decode b_FO_programStart 33 = .ok (.invokestatic 64, 3) := by decide +kernel
theorem d_FO_programStart_36 : decode b_FO_programStart 36 = .ok (.sipush 128, 3) := by decide +kernel
theorem d_FO_programStart_39 : decode b_FO_programStart 39 = .ok (.if_icmp .le 10, 3) := by decide +kernel
theorem d_FO_programStart_42 : decode b_FO_programStart 42 = .ok (.iload_n 3, 1) := by decide +kernel
theorem d_FO_programStart_43 : decode b_FO_programStart 43 = .ok (.invokestatic 88, 3) := by decide +kernel
theorem d_FO_programStart_46 : decode b_FO_programStart 46 = .ok (.goto 4, 3) := by decide +kernel
theorem d_FO_programStart_49 : decode b_FO_programStart 49 = .ok (.iload_n 2, 1) := by decide +kernel
theorem d_FO_programStart_50 : decode b_FO_programStart 50 = .ok (.ireturn, 1) := by decide +kernel
set_option maxHeartbeats 4000000 in
set_option maxRecDepth 100000 in
theorem c_FO_programStart (l : Launch) (dC : Nat → ClassId) (dI : Nat → Nat → Nat) (o : Nat) (wa : Nat) (sa : Nat) (la : Nat) (sz : Int32) (sc : Int32) (hv : Int32) (cI : ClassId) (B : Nat → Nat) (w : Nat → Int32) (st : Nat → Int32) (ln : Nat → Int32) (x : Nat) (hF : fm_FO B w st ln) (hV : fm_V B) (hxx : x = 256 ∨ fm_th B x = true) : fm_M l (dC, dI) y_FO_programStart w_FO_programStart ({ frames := 2, cells := 0, slots := 0, locals := 44 }) [.ref o, .int (nI (x))] [(o, .inr (1, [.ref wa, .ref sa, .ref la, .int (nI (fm_HF B 2)), .int (nI (fm_HF B 3)), .int (sz), .int (sc), .int (hv)])), (wa, .inl (cI, 2048, .inl (w))), (sa, .inl (cI, 10, .inl (st))), (la, .inl (cI, 10, .inl (ln)))] [(cI, .int)] ((fm_oI (fm_ps B x))) := by
  refine Met.ofW (cc := b_FO_programStart) (maxL := 4) (ret := (some .int)) (by decide) rfl ?_
  intro pg ev s m args below meth cd s₁ BD hml hv
  obtain ⟨rfl, hP, hK⟩ := hv
  have hx := BD.exec
  have hb := BD.bytes
  have hr := BD.returns
  have hts := atoms_spec (ws := w_FO_programStart) BD.pre
  have ht : ∀ w ∈ fm_T, w.before _ s = true := fun w h => hts w (List.mem_cons_of_mem _ h)
  have hown : s.vm.findClass R_FO = some m.cls := findClass_of_methodNamed BD.named
  have hlocks := BD.notSynchronized
  have S : CallFix pg m cd b_FO_programStart 4 s _ w_FO_programStart R_FO := ⟨hx, hb, hml, hown, hts⟩
  have hl := lv_entry ([.ref o, .int (nI (x))]) (n := 4) (Nat.le_of_ble_eq_true rfl)
  rw [lg_entry_eq]
  generalize (lg_sl ([.ref o, .int (nI (x))]) ++ List.replicate (4 - (lg_sl ([.ref o, .int (nI (x))])).length) Slot.unset).toArray = ls at hl ⊢
  have hl : lv_has ls 4 [(0, .ref o), (1, .int (nI (x)))] := hl
  have hB : ∀ i, B i < 256 := hF.1.1
  obtain ⟨hL, hFw, hFs, hFl⟩ := id hF
  obtain ⟨-, hq, h3, h10⟩ := id hL
  have hx256 : x ≤ 256 := by
    rcases hxx with e | e
    · omega
    · have e2 := fm_th_in e
      omega
  refine fm_join (nL := 4) (q := 23) (LV := [(0, .ref o), (2, .int (fm_oI (fm_so B x)))]) ?_ ?_
  · intro ls hl
    have hl : lv_has ls 4 [(0, .ref o), (2, .int (fm_oI (fm_so B x)))] := hl
    rcases hso : fm_so B x with _ | k
    · rw [hso] at hl
      refine lv_aload_n hx hb d_FO_programStart_23 rfl (lv_at hl 0 rfl) ?_
      refine lv_bipush (v := nI (6)) hx hb d_FO_programStart_24 (by decide) ?_
      refine lv_iload_n hx hb d_FO_programStart_26 rfl (lv_at hl 1 rfl) ?_
      refine fm_cv S (c_FO_word l dC dI o wa sa la sz sc hv cI B w st ln 6 (fm_oI none) (hF) (by decide)) rfl rfl k_FO_word q_1_153 ⟨Nat.le_of_ble_eq_true rfl, Nat.le_of_ble_eq_true rfl⟩ (hP.sub [0, 1, 2, 3] rfl) (hK.sub [0] rfl) 0 rfl rfl rfl hl.1 rfl (Nat.le_of_ble_eq_true rfl) ⟨Nat.zero_le _, Nat.zero_le _⟩ d_FO_programStart_27 ?_
      refine lv_istore_n (lv' := [(3, .int (fm_wd B 6 (fm_oI none))), (0, .ref o), (2, .int (fm_oI none))]) hx hb d_FO_programStart_30 rfl hl (by decide) rfl (fun ls hl => ?_)
      refine lv_iload_n hx hb d_FO_programStart_31 rfl (lv_at hl 0 rfl) ?_
      refine lv_iconst (v := nI (0)) hx hb d_FO_programStart_32 (by decide) ?_
      refine fm_cs S (c_FO_byteOf l dC dI (fm_wd B 6 (fm_oI none)) 0 (by omega)) rfl rfl k_FO_byteOf q_1_189 ⟨Nat.le_of_ble_eq_true rfl, Nat.le_of_ble_eq_true rfl⟩ (hP.sub [] rfl) (hK.sub [] rfl) rfl hl.1 rfl (Nat.le_of_ble_eq_true rfl) ⟨Nat.zero_le _, Nat.zero_le _⟩ d_FO_programStart_33 ?_
      have f0_33 := fm_by_lt (fm_wd B 6 (fm_oI none)) 0
      refine fm_tw (z := nI 0) (by rw [show fm_oI none = -1 from rfl, fm_wd_neg (by decide), show nI 0 = 0 from rfl, fm_by_0]; rfl) ?_
      refine lv_sipush (v := nI (128)) hx hb d_FO_programStart_36 (by decide) ?_
      refine lv_icmp_le (tgt := 49) hx hb d_FO_programStart_39 (by decide) (fun c0 => ?_) (fun c0 => ?_)
      · have c_39 : 0 ≤ 128 := (nI_leI (a := 0) (b := 128) (by omega) (by omega)).mp c0
        refine lv_iload_n hx hb d_FO_programStart_49 rfl (lv_at hl 2 rfl) ?_
        exact W.iret hx hb hr (fun t ht hW => ⟨_, rfl, by rw [fm_ps, hso]; rfl, ht⟩) (fun q hq => by cases hq) d_FO_programStart_50
      · have c_39 : ¬ (0 ≤ 128) := fun z => c0 ((nI_leI (a := 0) (b := 128) (by omega) (by omega)).mpr z)
        exact absurd c_39 (by decide)
    · rw [hso] at hl
      have hkw := fm_V_so hV hxx hso
      have hl : lv_has ls 4 [(0, .ref o), (2, .int (nI k))] := hl
      refine lv_aload_n hx hb d_FO_programStart_23 rfl (lv_at hl 0 rfl) ?_
      refine lv_bipush (v := nI (6)) hx hb d_FO_programStart_24 (by decide) ?_
      refine lv_iload_n hx hb d_FO_programStart_26 rfl (lv_at hl 1 rfl) ?_
      refine fm_cv S (c_FO_wordN l dC dI o wa sa la sz sc hv cI B w st ln 6 k (hF) (by decide) (hkw)) rfl rfl k_FO_word q_1_153 ⟨Nat.le_of_ble_eq_true rfl, Nat.le_of_ble_eq_true rfl⟩ (hP.sub [0, 1, 2, 3] rfl) (hK.sub [0] rfl) 0 rfl rfl rfl hl.1 rfl (Nat.le_of_ble_eq_true rfl) ⟨Nat.zero_le _, Nat.zero_le _⟩ d_FO_programStart_27 ?_
      refine lv_istore_n (lv' := [(3, .int (fm_W B 6 k)), (0, .ref o), (2, .int (nI (k)))]) hx hb d_FO_programStart_30 rfl hl (by decide) rfl (fun ls hl => ?_)
      refine lv_iload_n hx hb d_FO_programStart_31 rfl (lv_at hl 0 rfl) ?_
      refine lv_iconst (v := nI (0)) hx hb d_FO_programStart_32 (by decide) ?_
      refine fm_cs S (c_FO_byteOf l dC dI (fm_W B 6 k) 0 (by omega)) rfl rfl k_FO_byteOf q_1_189 ⟨Nat.le_of_ble_eq_true rfl, Nat.le_of_ble_eq_true rfl⟩ (hP.sub [] rfl) (hK.sub [] rfl) rfl hl.1 rfl (Nat.le_of_ble_eq_true rfl) ⟨Nat.zero_le _, Nat.zero_le _⟩ d_FO_programStart_33 ?_
      refine fm_tw (z := nI (fm_AT B 6 k 0)) (by simp only [fm_by_W hB _ _ (show 0 < 4 by decide), fm_by_W hB _ _ (show 1 < 4 by decide), fm_by_W hB _ _ (show 2 < 4 by decide), fm_by_W hB _ _ (show 3 < 4 by decide)]) ?_
      have f0_33 := fm_AT_lt hB 6 k 0
      refine lv_sipush (v := nI (128)) hx hb d_FO_programStart_36 (by decide) ?_
      refine lv_icmp_le (tgt := 49) hx hb d_FO_programStart_39 (by decide) (fun c0 => ?_) (fun c0 => ?_)
      · have c_39 : fm_AT B 6 k 0 ≤ 128 := (nI_leI (a := fm_AT B 6 k 0) (b := 128) (by omega) (by omega)).mp c0
        refine lv_iload_n hx hb d_FO_programStart_49 rfl (lv_at hl 2 rfl) ?_
        exact W.iret hx hb hr (fun t ht hW => ⟨_, rfl, by rw [fm_ps, hso]; exact congrArg nI (by rw [fm_at0, if_neg (Nat.not_lt.mpr c_39)]), ht⟩) (fun q hq => by cases hq) d_FO_programStart_50
      · have c_39 : ¬ (fm_AT B 6 k 0 ≤ 128) := fun z => c0 ((nI_leI (a := fm_AT B 6 k 0) (b := 128) (by omega) (by omega)).mpr z)
        refine lv_iload_n hx hb d_FO_programStart_42 rfl (lv_at hl 0 rfl) ?_
        refine fm_cs S (c_FO_target l dC dI (fm_W B 6 k) ) rfl rfl k_FO_target q_2_179 ⟨Nat.le_of_ble_eq_true rfl, Nat.le_of_ble_eq_true rfl⟩ (hP.sub [] rfl) (hK.sub [] rfl) rfl hl.1 rfl (Nat.le_of_ble_eq_true rfl) ⟨Nat.zero_le _, Nat.zero_le _⟩ d_FO_programStart_43 ?_
        refine fm_tw (z := nI (256 * fm_AT B 6 k 2 + fm_AT B 6 k 3)) (by simp only [fm_by_W hB _ _ (show 0 < 4 by decide), fm_by_W hB _ _ (show 1 < 4 by decide), fm_by_W hB _ _ (show 2 < 4 by decide), fm_by_W hB _ _ (show 3 < 4 by decide)]) ?_
        have f0_43 := fm_AT_lt hB 6 k 2
        have f1_43 := fm_AT_lt hB 6 k 3
        refine lv_goto (tgt := 50) hx hb d_FO_programStart_46 (by decide) ?_
        exact W.iret hx hb hr (fun t ht hW => ⟨_, rfl, by rw [fm_ps, hso]; exact congrArg nI (by rw [fm_at0, if_pos (Nat.lt_of_not_le c_39)]; rfl), ht⟩) (fun q hq => by cases hq) d_FO_programStart_50
  intro jn_23
  refine lv_iload_n hx hb d_FO_programStart_0 rfl (lv_at hl 1 rfl) ?_
  refine lv_sipush (v := nI (256)) hx hb d_FO_programStart_1 (by decide) ?_
  refine lv_icmp_ne (tgt := 14) hx hb d_FO_programStart_4 (by decide) (fun c0 => ?_) (fun c0 => ?_)
  · have c_4 : ¬ (x = 256) := fun z => c0 ((nI_eq (a := x) (b := 256) (by omega) (by omega)).mpr z)
    refine lv_aload_n hx hb d_FO_programStart_14 rfl (lv_at hl 0 rfl) ?_
    refine lv_iload_n hx hb d_FO_programStart_15 rfl (lv_at hl 1 rfl) ?_
    refine fm_cv S (c_FO_character l dC dI o wa sa la sz sc hv cI B w st ln (nI (x)) (hF)) rfl rfl k_FO_character q_1_149 ⟨Nat.le_of_ble_eq_true rfl, Nat.le_of_ble_eq_true rfl⟩ (hP.sub [0, 1, 2, 3] rfl) (hK.sub [0] rfl) 0 rfl rfl rfl hl.1 rfl (Nat.le_of_ble_eq_true rfl) ⟨Nat.zero_le _, Nat.zero_le _⟩ d_FO_programStart_16 ?_
    refine fm_cs S (c_FO_startOfCharacter l dC dI (fm_ch B (nI (x))) ) rfl rfl k_FO_startOfCharacter q_3_26 ⟨Nat.le_of_ble_eq_true rfl, Nat.le_of_ble_eq_true rfl⟩ (hP.sub [] rfl) (hK.sub [] rfl) rfl hl.1 rfl (Nat.le_of_ble_eq_true rfl) ⟨Nat.zero_le _, Nat.zero_le _⟩ d_FO_programStart_19 ?_
    refine fm_tw (z := (fm_oI (fm_so B x))) (by first | (rw [fm_so, if_pos c_4, fm_ep_o]; done) | (rw [fm_soW hB (hxx.resolve_left c_4) c_4]; done)) ?_
    refine lv_istore_n (lv' := [(2, .int (fm_oI (fm_so B x))), (0, .ref o), (1, .int (nI (x)))]) hx hb d_FO_programStart_22 rfl hl (by decide) rfl (fun ls hl => ?_)
    exact jn_23 ls (lv_sub hl [1, 0] rfl)
  · have c_4 : x = 256 := (nI_eq (a := x) (b := 256) (by omega) (by omega)).mp c0
    refine lv_aload_n hx hb d_FO_programStart_7 rfl (lv_at hl 0 rfl) ?_
    refine fm_cv S (c_FO_edgeStart l dC dI o wa sa la sz sc hv cI B w st ln (hF)) rfl rfl k_FO_edgeStart q_3_25 ⟨Nat.le_of_ble_eq_true rfl, Nat.le_of_ble_eq_true rfl⟩ (hP.sub [0, 1, 2, 3] rfl) (hK.sub [0] rfl) 0 rfl rfl rfl hl.1 rfl (Nat.le_of_ble_eq_true rfl) ⟨Nat.zero_le _, Nat.zero_le _⟩ d_FO_programStart_8 ?_
    refine lv_goto (tgt := 22) hx hb d_FO_programStart_11 (by decide) ?_
    refine fm_tw (z := (fm_oI (fm_so B x))) (by first | (rw [fm_so, if_pos c_4, fm_ep_o]; done) | (rw [fm_soW hB (hxx.resolve_left c_4) c_4]; done)) ?_
    refine lv_istore_n (lv' := [(2, .int (fm_oI (fm_so B x))), (0, .ref o), (1, .int (nI (x)))]) hx hb d_FO_programStart_22 rfl hl (by decide) rfl (fun ls hl => ?_)
    exact jn_23 ls (lv_sub hl [1, 0] rfl)
theorem d_FO_find_0 : decode b_FO_find 0 = .ok (.aload_n 0, 1) := by decide +kernel
theorem d_FO_find_1 : decode b_FO_find 1 = .ok (.iload_n 1, 1) := by decide +kernel
theorem d_FO_find_2 : decode b_FO_find 2 = .ok (.invokevirtual 91, 3) := by decide +kernel
theorem d_FO_find_5 : decode b_FO_find 5 = .ok (.istore_n 3, 1) := by decide +kernel
theorem d_FO_find_6 : decode b_FO_find 6 = .ok (.iload_n 3, 1) := by decide +kernel
theorem d_FO_find_7 : decode b_FO_find 7 = .ok (.ifCond .ge 5, 3) := by decide +kernel
theorem d_FO_find_10 : decode b_FO_find 10 = .ok (.iconst (-1), 1) := by decide +kernel
theorem d_FO_find_11 : decode b_FO_find 11 = .ok (.ireturn, 1) := by decide +kernel
theorem d_FO_find_12 : decode b_FO_find 12 = .ok (.iload_n 2, 1) := by decide +kernel
theorem d_FO_find_13 : decode b_FO_find 13 = .ok (.sipush 256, 3) := by decide +kernel
theorem d_FO_find_16 : decode b_FO_find 16 = .ok (.if_icmp .ne 10, 3) := by decide +kernel
theorem d_FO_find_19 : decode b_FO_find 19 = .ok (.aload_n 0, 1) := by decide +kernel
theorem d_FO_find_20 : decode b_FO_find 20 = .ok (.invokevirtual 94, 3) := by decide +kernel
theorem d_FO_find_23 : decode b_FO_find 23 = .ok (.goto 4, 3) := by decide +kernel
theorem d_FO_find_26 : decode b_FO_find 26 = .ok (.iload_n 2, 1) := by decide +kernel
theorem d_FO_find_27 : decode b_FO_find 27 = .ok (.istore 4, 2) := by decide +kernel
theorem d_FO_find_29 : decode b_FO_find 29 = .ok (.aload_n 0, 1) := by decide +kernel
theorem d_FO_find_30 : decode b_FO_find 30 = .ok (.bipush 6, 2) := by decide +kernel
theorem d_FO_find_32 : decode b_FO_find 32 = .ok (.invokevirtual 85, 3) := by decide +kernel
theorem d_FO_find_35 : decode b_FO_find 35 = .ok (.istore 5, 2) := by decide +kernel
theorem d_FO_find_37 : decode b_FO_find 37 = .ok (.iload_n 3, 1) := by decide +kernel
theorem d_FO_find_38 : decode b_FO_find 38 = .ok (.istore 6, 2) := by decide +kernel
theorem d_FO_find_40 : decode b_FO_find 40 = .ok (.iconst 0, 1) := by decide +kernel
theorem d_FO_find_41 : decode b_FO_find 41 = .ok (.istore 7, 2) := by decide +kernel
theorem d_FO_find_43 : decode b_FO_find 43 = .ok (.iload 7, 2) := by decide +kernel
theorem d_FO_find_45 : decode b_FO_find 45 = .ok (.iload 5, 2) := by decide +kernel
theorem d_FO_find_47 : decode b_FO_find 47 = .ok (.if_icmp .ge 80, 3) := by decide +kernel
theorem d_FO_find_50 : decode b_FO_find 50 = .ok (.iload 6, 2) := by decide +kernel
theorem d_FO_find_52 : decode b_FO_find 52 = .ok (.iload 5, 2) := by decide +kernel
theorem d_FO_find_54 : decode b_FO_find 54 = .ok (.if_icmp .ge 73, 3) := by decide +kernel
theorem d_FO_find_57 : decode b_FO_find 57 = .ok (.aload_n 0, 1) := by decide +kernel
theorem d_FO_find_58 : decode b_FO_find 58 = .ok (.bipush 6, 2) := by decide +kernel
theorem d_FO_find_60 : decode b_FO_find 60 = .ok (.iload 6, 2) := by decide +kernel
theorem d_FO_find_62 : decode b_FO_find 62 = .ok (.invokevirtual 60, 3) := by decide +kernel
theorem d_FO_find_65 : decode b_FO_find 65 = .ok (.istore 8, 2) := by decide +kernel
theorem d_FO_find_67 : decode b_FO_find 67 = .ok (.iload 8, 2) := by decide +kernel
theorem d_FO_find_69 : decode b_FO_find 69 = .ok (.iconst 0, 1) := by decide +kernel
theorem d_FO_find_70 : decode b_FO_find 70 = .ok (.invokestatic 64, 3) := by decide +kernel
theorem d_FO_find_73 : decode b_FO_find 73 = .ok (.istore 9, 2) := by decide +kernel
theorem d_FO_find_75 : decode b_FO_find 75 = .ok (.iload 9, 2) := by decide +kernel
theorem d_FO_find_77 : decode b_FO_find 77 = .ok (.sipush 128, 3) := by decide +kernel
theorem d_FO_find_80 : decode b_FO_find 80 = .ok (.if_icmp .le 5, 3) := by decide +kernel
theorem d_FO_find_83 : decode b_FO_find 83 = .ok (.iconst (-1), 1) := by decide +kernel
theorem d_FO_find_84 : decode b_FO_find 84 = .ok (.ireturn, 1) := by decide +kernel
theorem d_FO_find_85 : decode b_FO_find 85 = .ok (.iload 8, 2) := by decide +kernel
theorem d_FO_find_87 : decode b_FO_find 87 = .ok (.iconst 1, 1) := by decide +kernel
theorem d_FO_find_88 : decode b_FO_find 88 = .ok (.invokestatic 64, 3) := by decide +kernel
theorem d_FO_find_91 : decode b_FO_find 91 = .ok (.iload 4, 2) := by decide +kernel
theorem d_FO_find_93 : decode b_FO_find 93 = .ok (.if_icmp .ne 9, 3) := by decide +kernel
theorem d_FO_find_96 : decode b_FO_find 96 = .ok (.iload 8, 2) := by decide +kernel
theorem d_FO_find_98 : decode b_FO_find 98 = .ok (.invokestatic 98, 3) := by decide +kernel
theorem d_FO_find_101 : decode b_FO_find 101 = .ok (.ireturn, 1) := by decide +kernel
theorem d_FO_find_102 : decode b_FO_find 102 = .ok (.iload 9, 2) := by decide +kernel
theorem d_FO_find_104 : decode b_FO_find 104 = .ok (.sipush 128, 3) := by decide +kernel
theorem d_FO_find_107 : decode b_FO_find 107 = .ok (.if_icmp .ne 5, 3) := by decide +kernel
theorem d_FO_find_110 : decode b_FO_find 110 = .ok (.iconst (-1), 1) := by decide +kernel
theorem d_FO_find_111 : decode b_FO_find 111 = .ok (.ireturn, 1) := by decide +kernel
theorem d_FO_find_112 : decode b_FO_find 112 = .ok (.iload 6, 2) := by decide +kernel
theorem d_FO_find_114 : decode b_FO_find 114 = .ok (.iload 9, 2) := by decide +kernel
theorem d_FO_find_116 : decode b_FO_find 116 = .ok (.iconst 1, 1) := by decide +kernel
theorem d_FO_find_117 : decode b_FO_find 117 = .ok (.iadd, 1) := by decide +kernel
theorem d_FO_find_118 : decode b_FO_find 118 = .ok (.iadd, 1) := by decide +kernel
theorem d_FO_find_119 : decode b_FO_find 119 = .ok (.istore 6, 2) := by decide +kernel
theorem d_FO_find_121 : decode b_FO_find 121 = .ok (.iinc 7 1, 3) := by decide +kernel
theorem d_FO_find_124 : decode b_FO_find 124 = .ok (.goto (-81), 3) := by decide +kernel
theorem d_FO_find_127 : decode b_FO_find 127 = .ok (.iconst (-1), 1) := by decide +kernel
theorem d_FO_find_128 : decode b_FO_find 128 = .ok (.ireturn, 1) := by decide +kernel
set_option maxHeartbeats 4000000 in
set_option maxRecDepth 100000 in
theorem c_FO_find (l : Launch) (dC : Nat → ClassId) (dI : Nat → Nat → Nat) (o : Nat) (wa : Nat) (sa : Nat) (la : Nat) (sz : Int32) (sc : Int32) (hv : Int32) (cI : ClassId) (B : Nat → Nat) (w : Nat → Int32) (st : Nat → Int32) (ln : Nat → Int32) (x : Nat) (r : Nat) (hF : fm_FO B w st ln) (hV : fm_V B) (hxx : x = 256 ∨ fm_th B x = true) (hrr : r ≤ 256) : fm_M l (dC, dI) y_FO_find w_FO_find ({ frames := 3, cells := 0, slots := 0, locals := 67 }) [.ref o, .int (nI (x)), .int (nI (r))] [(o, .inr (1, [.ref wa, .ref sa, .ref la, .int (nI (fm_HF B 2)), .int (nI (fm_HF B 3)), .int (sz), .int (sc), .int (hv)])), (wa, .inl (cI, 2048, .inl (w))), (sa, .inl (cI, 10, .inl (st))), (la, .inl (cI, 10, .inl (ln)))] [(cI, .int)] ((fm_say B x r)) := by
  refine Met.ofW (cc := b_FO_find) (maxL := 10) (ret := (some .int)) (by decide) rfl ?_
  intro pg ev s m args below meth cd s₁ BD hml hv
  obtain ⟨rfl, hP, hK⟩ := hv
  have hx := BD.exec
  have hb := BD.bytes
  have hr := BD.returns
  have hts := atoms_spec (ws := w_FO_find) BD.pre
  have ht : ∀ w ∈ fm_T, w.before _ s = true := fun w h => hts w (List.mem_cons_of_mem _ h)
  have hown : s.vm.findClass R_FO = some m.cls := findClass_of_methodNamed BD.named
  have hlocks := BD.notSynchronized
  have S : CallFix pg m cd b_FO_find 10 s _ w_FO_find R_FO := ⟨hx, hb, hml, hown, hts⟩
  have hl := lv_entry ([.ref o, .int (nI (x)), .int (nI (r))]) (n := 10) (Nat.le_of_ble_eq_true rfl)
  rw [lg_entry_eq]
  generalize (lg_sl ([.ref o, .int (nI (x)), .int (nI (r))]) ++ List.replicate (10 - (lg_sl ([.ref o, .int (nI (x)), .int (nI (r))])).length) Slot.unset).toArray = ls at hl ⊢
  have hl : lv_has ls 10 [(0, .ref o), (1, .int (nI (x))), (2, .int (nI (r)))] := hl
  have hB : ∀ i, B i < 256 := hF.1.1
  obtain ⟨hL, hFw, hFs, hFl⟩ := id hF
  obtain ⟨-, hq, h3, h10⟩ := id hL
  refine lv_aload_n hx hb d_FO_find_0 rfl (lv_at hl 0 rfl) ?_
  refine lv_iload_n hx hb d_FO_find_1 rfl (lv_at hl 1 rfl) ?_
  refine fm_cv S (c_FO_programStart l dC dI o wa sa la sz sc hv cI B w st ln x (hF) (hV) (hxx)) rfl rfl k_FO_programStart q_3_21 ⟨Nat.le_of_ble_eq_true rfl, Nat.le_of_ble_eq_true rfl⟩ (hP.sub [0, 1, 2, 3] rfl) (hK.sub [0] rfl) 0 rfl rfl rfl hl.1 rfl (Nat.le_of_ble_eq_true rfl) ⟨Nat.zero_le _, Nat.zero_le _⟩ d_FO_find_2 ?_
  refine lv_istore_n (lv' := [(3, .int (fm_oI (fm_ps B x))), (0, .ref o), (1, .int (nI (x))), (2, .int (nI (r)))]) hx hb d_FO_find_5 rfl hl (by decide) rfl (fun ls hl => ?_)
  refine lv_iload_n hx hb d_FO_find_6 rfl (lv_at hl 0 rfl) ?_
  refine lv_if_ge (tgt := 12) hx hb d_FO_find_7 (by decide) (fun c0 => ?_) (fun c0 => ?_)
  · have c_7 := c0
    obtain ⟨q0, hq0⟩ := fm_oI_ge (Int32.not_lt.mpr c_7)
    obtain ⟨k, hso, hk0⟩ := Option.map_eq_some_iff.mp hq0
    have hkw := fm_V_so hV hxx hso
    have hqw0 := fm_V_at0 hV hkw
    rw [hk0] at hqw0
    have hl : lv_has ls 10 [(3, .int (nI (q0))), (0, .ref o), (1, .int (nI (x))), (2, .int (nI (r)))] := by rw [show ((fm_oI (fm_ps B x)) : Int32) = nI (q0) from by rw [hq0]; rfl] at hl; exact hl
    refine fm_join (nL := 10) (q := 29) (LV := [(0, .ref o), (3, .int (nI (q0))), (4, .int (fm_oI (fm_no B r)))]) ?_ ?_
    · intro ls hl
      have hl : lv_has ls 10 [(0, .ref o), (3, .int (nI (q0))), (4, .int (fm_oI (fm_no B r)))] := hl
      refine lv_aload_n hx hb d_FO_find_29 rfl (lv_at hl 0 rfl) ?_
      refine lv_bipush (v := nI (6)) hx hb d_FO_find_30 (by decide) ?_
      refine fm_cv S (c_FO_lengthOfN l dC dI o wa sa la sz sc hv cI B w st ln 6 (hF) (by omega)) rfl rfl k_FO_lengthOf q_2_178 ⟨Nat.le_of_ble_eq_true rfl, Nat.le_of_ble_eq_true rfl⟩ (hP.sub [0, 1, 2, 3] rfl) (hK.sub [0] rfl) 0 rfl rfl rfl hl.1 rfl (Nat.le_of_ble_eq_true rfl) ⟨Nat.zero_le _, Nat.zero_le _⟩ d_FO_find_32 ?_
      have f0_32 := fm_WD_le hB 6
      refine lv_istore (lv' := [(5, .int (nI (fm_WD B 6))), (0, .ref o), (3, .int (nI (q0))), (4, .int (fm_oI (fm_no B r)))]) hx hb d_FO_find_35 hl (by decide) rfl (fun ls hl => ?_)
      refine lv_iload_n hx hb d_FO_find_37 rfl (lv_at hl 2 rfl) ?_
      refine lv_istore (lv' := [(6, .int (nI (q0))), (5, .int (nI (fm_WD B 6))), (0, .ref o), (3, .int (nI (q0))), (4, .int (fm_oI (fm_no B r)))]) hx hb d_FO_find_38 hl (by decide) rfl (fun ls hl => ?_)
      refine lv_iconst (v := nI (0)) hx hb d_FO_find_40 (by decide) ?_
      refine lv_istore (lv' := [(7, .int (nI (0))), (6, .int (nI (q0))), (5, .int (nI (fm_WD B 6))), (0, .ref o), (3, .int (nI (q0))), (4, .int (fm_oI (fm_no B r)))]) hx hb d_FO_find_41 hl (by decide) rfl (fun ls hl => ?_)
      refine fm_loop2 (LV := fun (q : Nat) (t : Nat) => [(0, .ref o), (4, .int (fm_oI (fm_no B r))), (5, .int (nI (fm_WD B 6))), (6, .int (nI (q))), (7, .int (nI (t)))]) (I := fun (q : Nat) (t : Nat) => q < fm_WD B 6 ∧ t ≤ q ∧ (fm_no B r).bind (fun nx => fm_seek B nx (fm_WD B 6 - q) q) = fm_fd B x r) (μ := fun (q : Nat) (t : Nat) => fm_WD B 6 - q) ?_ q0 0 (⟨hqw0, Nat.zero_le _, by rw [fm_fd, hso]; cases fm_no B r with | none => rfl | some nx => rw [← hk0]; rfl⟩) ls (lv_sub hl [3, 5, 2, 1, 0] rfl)
      intro q t hI_43 ih_43 ls hl
      have hl : lv_has ls 10 [(0, .ref o), (4, .int (fm_oI (fm_no B r))), (5, .int (nI (fm_WD B 6))), (6, .int (nI (q))), (7, .int (nI (t)))] := hl
      obtain ⟨hqw, htq, hsk⟩ := hI_43
      have hw6 := fm_WD_le hB 6
      refine lv_iload hx hb d_FO_find_43 (lv_at hl 4 rfl) ?_
      refine lv_iload hx hb d_FO_find_45 (lv_at hl 2 rfl) ?_
      refine lv_icmp_ge (tgt := 127) hx hb d_FO_find_47 (by decide) (fun c0 => ?_) (fun c0 => ?_)
      · have c_47 : fm_WD B 6 ≤ t := (nI_leI (a := fm_WD B 6) (b := t) (by omega) (by omega)).mp c0
        exact absurd c_47 (by omega)
      · have c_47 : ¬ (fm_WD B 6 ≤ t) := fun z => c0 ((nI_leI (a := fm_WD B 6) (b := t) (by omega) (by omega)).mpr z)
        refine lv_iload hx hb d_FO_find_50 (lv_at hl 3 rfl) ?_
        refine lv_iload hx hb d_FO_find_52 (lv_at hl 2 rfl) ?_
        refine lv_icmp_ge (tgt := 127) hx hb d_FO_find_54 (by decide) (fun c0 => ?_) (fun c0 => ?_)
        · have c_54 : fm_WD B 6 ≤ q := (nI_leI (a := fm_WD B 6) (b := q) (by omega) (by omega)).mp c0
          exact absurd c_54 (by omega)
        · have c_54 : ¬ (fm_WD B 6 ≤ q) := fun z => c0 ((nI_leI (a := fm_WD B 6) (b := q) (by omega) (by omega)).mpr z)
          refine lv_aload_n hx hb d_FO_find_57 rfl (lv_at hl 0 rfl) ?_
          refine lv_bipush (v := nI (6)) hx hb d_FO_find_58 (by decide) ?_
          refine lv_iload hx hb d_FO_find_60 (lv_at hl 3 rfl) ?_
          refine fm_cv S (c_FO_wordN l dC dI o wa sa la sz sc hv cI B w st ln 6 q (hF) (by decide) (hqw)) rfl rfl k_FO_word q_1_153 ⟨Nat.le_of_ble_eq_true rfl, Nat.le_of_ble_eq_true rfl⟩ (hP.sub [0, 1, 2, 3] rfl) (hK.sub [0] rfl) 0 rfl rfl rfl hl.1 rfl (Nat.le_of_ble_eq_true rfl) ⟨Nat.zero_le _, Nat.zero_le _⟩ d_FO_find_62 ?_
          refine lv_istore (lv' := [(8, .int (fm_W B 6 q)), (0, .ref o), (4, .int (fm_oI (fm_no B r))), (5, .int (nI (fm_WD B 6))), (6, .int (nI (q))), (7, .int (nI (t)))]) hx hb d_FO_find_65 hl (by decide) rfl (fun ls hl => ?_)
          refine lv_iload hx hb d_FO_find_67 (lv_at hl 0 rfl) ?_
          refine lv_iconst (v := nI (0)) hx hb d_FO_find_69 (by decide) ?_
          refine fm_cs S (c_FO_byteOf l dC dI (fm_W B 6 q) 0 (by omega)) rfl rfl k_FO_byteOf q_1_189 ⟨Nat.le_of_ble_eq_true rfl, Nat.le_of_ble_eq_true rfl⟩ (hP.sub [] rfl) (hK.sub [] rfl) rfl hl.1 rfl (Nat.le_of_ble_eq_true rfl) ⟨Nat.zero_le _, Nat.zero_le _⟩ d_FO_find_70 ?_
          refine fm_tw (z := nI (fm_AT B 6 q 0)) (by simp only [fm_by_W hB _ _ (show 0 < 4 by decide), fm_by_W hB _ _ (show 1 < 4 by decide), fm_by_W hB _ _ (show 2 < 4 by decide), fm_by_W hB _ _ (show 3 < 4 by decide)]) ?_
          have f0_70 := fm_AT_lt hB 6 q 0
          refine lv_istore (lv' := [(9, .int (nI (fm_AT B 6 q 0))), (8, .int (fm_W B 6 q)), (0, .ref o), (4, .int (fm_oI (fm_no B r))), (5, .int (nI (fm_WD B 6))), (6, .int (nI (q))), (7, .int (nI (t)))]) hx hb d_FO_find_73 hl (by decide) rfl (fun ls hl => ?_)
          refine lv_iload hx hb d_FO_find_75 (lv_at hl 0 rfl) ?_
          refine lv_sipush (v := nI (128)) hx hb d_FO_find_77 (by decide) ?_
          refine lv_icmp_le (tgt := 85) hx hb d_FO_find_80 (by decide) (fun c0 => ?_) (fun c0 => ?_)
          · have c_80 : fm_AT B 6 q 0 ≤ 128 := (nI_leI (a := fm_AT B 6 q 0) (b := 128) (by omega) (by omega)).mp c0
            refine lv_iload hx hb d_FO_find_85 (lv_at hl 1 rfl) ?_
            refine lv_iconst (v := nI (1)) hx hb d_FO_find_87 (by decide) ?_
            refine fm_cs S (c_FO_byteOf l dC dI (fm_W B 6 q) 1 (by omega)) rfl rfl k_FO_byteOf q_1_189 ⟨Nat.le_of_ble_eq_true rfl, Nat.le_of_ble_eq_true rfl⟩ (hP.sub [] rfl) (hK.sub [] rfl) rfl hl.1 rfl (Nat.le_of_ble_eq_true rfl) ⟨Nat.zero_le _, Nat.zero_le _⟩ d_FO_find_88 ?_
            refine fm_tw (z := nI (fm_AT B 6 q 1)) (by simp only [fm_by_W hB _ _ (show 0 < 4 by decide), fm_by_W hB _ _ (show 1 < 4 by decide), fm_by_W hB _ _ (show 2 < 4 by decide), fm_by_W hB _ _ (show 3 < 4 by decide)]) ?_
            have f0_88 := fm_AT_lt hB 6 q 1
            refine lv_iload hx hb d_FO_find_91 (lv_at hl 3 rfl) ?_
            refine lv_icmp_ne (tgt := 102) hx hb d_FO_find_93 (by decide) (fun c0 => ?_) (fun c0 => ?_)
            · have c_93 := c0
              refine lv_iload hx hb d_FO_find_102 (lv_at hl 0 rfl) ?_
              refine lv_sipush (v := nI (128)) hx hb d_FO_find_104 (by decide) ?_
              refine lv_icmp_ne (tgt := 112) hx hb d_FO_find_107 (by decide) (fun c0 => ?_) (fun c0 => ?_)
              · have c_107 : ¬ (fm_AT B 6 q 0 = 128) := fun z => c0 ((nI_eq (a := fm_AT B 6 q 0) (b := 128) (by omega) (by omega)).mpr z)
                refine lv_iload hx hb d_FO_find_112 (lv_at hl 5 rfl) ?_
                refine lv_iload hx hb d_FO_find_114 (lv_at hl 0 rfl) ?_
                refine lv_iconst (v := nI (1)) hx hb d_FO_find_116 (by decide) ?_
                refine lv_iadd hx hb d_FO_find_117 ?_
                refine fm_tw (z := nI (fm_AT B 6 q 0 + 1)) (nI_add _ _) ?_
                refine lv_iadd hx hb d_FO_find_118 ?_
                refine fm_tw (z := nI (q + fm_AT B 6 q 0 + 1)) (nI_add _ _) ?_
                refine lv_istore (lv' := [(6, .int (nI (q + fm_AT B 6 q 0 + 1))), (9, .int (nI (fm_AT B 6 q 0))), (8, .int (fm_W B 6 q)), (0, .ref o), (4, .int (fm_oI (fm_no B r))), (5, .int (nI (fm_WD B 6))), (7, .int (nI (t)))]) hx hb d_FO_find_119 hl (by decide) rfl (fun ls hl => ?_)
                refine lv_iinc (v := nI (t + 1)) (lv' := [(7, .int (nI (t + 1))), (6, .int (nI (q + fm_AT B 6 q 0 + 1))), (9, .int (nI (fm_AT B 6 q 0))), (8, .int (fm_W B 6 q)), (0, .ref o), (4, .int (fm_oI (fm_no B r))), (5, .int (nI (fm_WD B 6)))]) hx hb d_FO_find_121 hl (k := 6) rfl (nI_1 _) (by decide) rfl (fun ls hl => ?_)
                refine lv_goto (tgt := 43) hx hb d_FO_find_124 (by decide) ?_
                exact ih_43 (q + fm_AT B 6 q 0 + 1) (t + 1) ls (⟨fm_V_next hV hqw (by omega), by omega, by rw [← hsk]; cases hno : fm_no B r with | none => rfl | some nx => show fm_seek B nx _ _ = fm_seek B nx _ _; rw [fm_seek_s hV hqw (nx := nx), if_neg (by omega), if_neg (fun z => c_93 (by rw [hno, z]; rfl)), if_neg c_107]⟩) (by omega) (lv_sub hl [4, 5, 6, 1, 0] rfl)
              · have c_107 : fm_AT B 6 q 0 = 128 := (nI_eq (a := fm_AT B 6 q 0) (b := 128) (by omega) (by omega)).mp c0
                refine lv_iconst (v := ((-1))) hx hb d_FO_find_110 (by decide) ?_
                exact W.iret hx hb hr (fun t ht hW => ⟨_, rfl, by rw [fm_say, ← hsk]; cases hno : fm_no B r with | none => rfl | some nx => show _ = fm_oI (Option.map _ (fm_seek B nx _ _)); rw [fm_seek_s hV hqw (nx := nx), if_neg (by omega), if_neg (fun z => c_93 (by rw [hno, z]; rfl)), if_pos c_107]; rfl, ht⟩) (fun q hq => by cases hq) d_FO_find_111
            · have c_93 := c0
              refine lv_iload hx hb d_FO_find_96 (lv_at hl 1 rfl) ?_
              refine fm_cs S (c_FO_saying l dC dI (fm_W B 6 q) ) rfl rfl k_FO_saying q_3_32 ⟨Nat.le_of_ble_eq_true rfl, Nat.le_of_ble_eq_true rfl⟩ (hP.sub [] rfl) (hK.sub [] rfl) rfl hl.1 rfl (Nat.le_of_ble_eq_true rfl) ⟨Nat.zero_le _, Nat.zero_le _⟩ d_FO_find_98 ?_
              refine fm_tw (z := nI (256 * fm_AT B 6 q 2 + fm_AT B 6 q 3)) (by simp only [fm_by_W hB _ _ (show 0 < 4 by decide), fm_by_W hB _ _ (show 1 < 4 by decide), fm_by_W hB _ _ (show 2 < 4 by decide), fm_by_W hB _ _ (show 3 < 4 by decide)]) ?_
              have f0_98 := fm_AT_lt hB 6 q 2
              have f1_98 := fm_AT_lt hB 6 q 3
              exact W.iret hx hb hr (fun t ht hW => ⟨_, rfl, by rw [fm_say, ← hsk, fm_oI_eq (by omega) (fm_no_lt hB hrr) c_93]; show _ = fm_oI (Option.map _ (fm_seek B _ _ _)); rw [fm_seek_s hV hqw, if_neg (by omega), if_pos rfl]; rfl, ht⟩) (fun q hq => by cases hq) d_FO_find_101
          · have c_80 : ¬ (fm_AT B 6 q 0 ≤ 128) := fun z => c0 ((nI_leI (a := fm_AT B 6 q 0) (b := 128) (by omega) (by omega)).mpr z)
            refine lv_iconst (v := ((-1))) hx hb d_FO_find_83 (by decide) ?_
            exact W.iret hx hb hr (fun t ht hW => ⟨_, rfl, by rw [fm_say, ← hsk]; cases fm_no B r with | none => rfl | some nx => show _ = fm_oI (Option.map _ (fm_seek B nx _ _)); rw [fm_seek_s hV hqw (nx := nx), if_pos (Nat.lt_of_not_le c_80)]; rfl, ht⟩) (fun q hq => by cases hq) d_FO_find_84
    intro jn_29
    refine lv_iload_n hx hb d_FO_find_12 rfl (lv_at hl 3 rfl) ?_
    refine lv_sipush (v := nI (256)) hx hb d_FO_find_13 (by decide) ?_
    refine lv_icmp_ne (tgt := 26) hx hb d_FO_find_16 (by decide) (fun c0 => ?_) (fun c0 => ?_)
    · have c_16 : ¬ (r = 256) := fun z => c0 ((nI_eq (a := r) (b := 256) (by omega) (by omega)).mpr z)
      refine lv_iload_n hx hb d_FO_find_26 rfl (lv_at hl 3 rfl) ?_
      refine fm_tw (z := (fm_oI (fm_no B r))) (by first | (rw [fm_no, if_pos c_16, fm_eg_o]; done) | (rw [fm_no, if_neg c_16]; rfl)) ?_
      refine lv_istore (lv' := [(4, .int (fm_oI (fm_no B r))), (3, .int (nI (q0))), (0, .ref o), (1, .int (nI (x))), (2, .int (nI (r)))]) hx hb d_FO_find_27 hl (by decide) rfl (fun ls hl => ?_)
      exact jn_29 ls (lv_sub hl [2, 1, 0] rfl)
    · have c_16 : r = 256 := (nI_eq (a := r) (b := 256) (by omega) (by omega)).mp c0
      refine lv_aload_n hx hb d_FO_find_19 rfl (lv_at hl 1 rfl) ?_
      refine fm_cv S (c_FO_edge l dC dI o wa sa la sz sc hv cI B w st ln (hF)) rfl rfl k_FO_edge q_3_31 ⟨Nat.le_of_ble_eq_true rfl, Nat.le_of_ble_eq_true rfl⟩ (hP.sub [0, 1, 2, 3] rfl) (hK.sub [0] rfl) 0 rfl rfl rfl hl.1 rfl (Nat.le_of_ble_eq_true rfl) ⟨Nat.zero_le _, Nat.zero_le _⟩ d_FO_find_20 ?_
      refine lv_goto (tgt := 27) hx hb d_FO_find_23 (by decide) ?_
      refine fm_tw (z := (fm_oI (fm_no B r))) (by first | (rw [fm_no, if_pos c_16, fm_eg_o]; done) | (rw [fm_no, if_neg c_16]; rfl)) ?_
      refine lv_istore (lv' := [(4, .int (fm_oI (fm_no B r))), (3, .int (nI (q0))), (0, .ref o), (1, .int (nI (x))), (2, .int (nI (r)))]) hx hb d_FO_find_27 hl (by decide) rfl (fun ls hl => ?_)
      exact jn_29 ls (lv_sub hl [2, 1, 0] rfl)
  · have c_7 := c0
    have hnone := fm_oI_lt (N := 65536) (fun {k} hk => by obtain ⟨k2, h2, rfl⟩ := Option.map_eq_some_iff.mp hk; have h5 := fm_V_at0 hV (fm_V_so hV hxx h2); have h6 := fm_WD_le hB 6; exact ⟨by omega, by decide⟩) (Int32.not_le.mp c_7)
    refine lv_iconst (v := ((-1))) hx hb d_FO_find_10 (by decide) ?_
    exact W.iret hx hb hr (fun t ht hW => ⟨_, rfl, by rw [fm_say, fm_fd, Option.map_eq_none_iff.mp hnone]; rfl, ht⟩) (fun q hq => by cases hq) d_FO_find_11
theorem d_FO_kern_0 : decode b_FO_kern 0 = .ok (.aload_n 0, 1) := by decide +kernel
theorem d_FO_kern_1 : decode b_FO_kern 1 = .ok (.aload_n 0, 1) := by decide +kernel
theorem d_FO_kern_2 : decode b_FO_kern 2 = .ok (.bipush 7, 2) := by decide +kernel
theorem d_FO_kern_4 : decode b_FO_kern 4 = .ok (.iload_n 1, 1) := by decide +kernel
theorem d_FO_kern_5 : decode b_FO_kern 5 = .ok (.invokevirtual 60, 3) := by decide +kernel
theorem d_FO_kern_8 : decode b_FO_kern 8 = .ok (.invokevirtual 73, 3) := by decide +kernel
theorem d_FO_kern_11 : decode b_FO_kern 11 = .ok (.ireturn, 1) := by decide +kernel
set_option maxHeartbeats 4000000 in
set_option maxRecDepth 100000 in
theorem c_FO_kern (l : Launch) (dC : Nat → ClassId) (dI : Nat → Nat → Nat) (o : Nat) (wa : Nat) (sa : Nat) (la : Nat) (sz : Int32) (s0 : Nat) (cI : ClassId) (B : Nat → Nat) (w : Nat → Int32) (st : Nat → Int32) (ln : Nat → Int32) (k : Nat) (hF : fm_FO B w st ln) (hs : s0 < 134217728) (hk : k < fm_WD B 7) : fm_M l (dC, dI) y_FO_kern w_FO_kern ({ frames := 2, cells := 0, slots := 0, locals := 46 }) [.ref o, .int (nI (k))] [(o, .inr (1, [.ref wa, .ref sa, .ref la, .int (nI (fm_HF B 2)), .int (nI (fm_HF B 3)), .int (sz), .int (nI (fm_z s0)), .int (nI (fm_h s0))])), (wa, .inl (cI, 2048, .inl (w))), (sa, .inl (cI, 10, .inl (st))), (la, .inl (cI, 10, .inl (ln)))] [(cI, .int)] ((fm_sc B s0 7 k)) := by
  refine Met.ofW (cc := b_FO_kern) (maxL := 2) (ret := (some .int)) (by decide) rfl ?_
  intro pg ev s m args below meth cd s₁ BD hml hv
  obtain ⟨rfl, hP, hK⟩ := hv
  have hx := BD.exec
  have hb := BD.bytes
  have hr := BD.returns
  have hts := atoms_spec (ws := w_FO_kern) BD.pre
  have ht : ∀ w ∈ fm_T, w.before _ s = true := fun w h => hts w (List.mem_cons_of_mem _ h)
  have hown : s.vm.findClass R_FO = some m.cls := findClass_of_methodNamed BD.named
  have hlocks := BD.notSynchronized
  have S : CallFix pg m cd b_FO_kern 2 s _ w_FO_kern R_FO := ⟨hx, hb, hml, hown, hts⟩
  have hl := lv_entry ([.ref o, .int (nI (k))]) (n := 2) (Nat.le_of_ble_eq_true rfl)
  rw [lg_entry_eq]
  generalize (lg_sl ([.ref o, .int (nI (k))]) ++ List.replicate (2 - (lg_sl ([.ref o, .int (nI (k))])).length) Slot.unset).toArray = ls at hl ⊢
  have hl : lv_has ls 2 [(0, .ref o), (1, .int (nI (k)))] := hl
  have hB : ∀ i, B i < 256 := hF.1.1
  obtain ⟨hL, hFw, hFs, hFl⟩ := id hF
  obtain ⟨-, hq, h3, h10⟩ := id hL
  refine lv_aload_n hx hb d_FO_kern_0 rfl (lv_at hl 0 rfl) ?_
  refine lv_aload_n hx hb d_FO_kern_1 rfl (lv_at hl 0 rfl) ?_
  refine lv_bipush (v := nI (7)) hx hb d_FO_kern_2 (by decide) ?_
  refine lv_iload_n hx hb d_FO_kern_4 rfl (lv_at hl 1 rfl) ?_
  refine fm_cv S (c_FO_wordN l dC dI o wa sa la sz (nI (fm_z s0)) (nI (fm_h s0)) cI B w st ln 7 k (hF) (by decide) (hk)) rfl rfl k_FO_word q_1_153 ⟨Nat.le_of_ble_eq_true rfl, Nat.le_of_ble_eq_true rfl⟩ (hP.sub [0, 1, 2, 3] rfl) (hK.sub [0] rfl) 0 rfl rfl rfl hl.1 rfl (Nat.le_of_ble_eq_true rfl) ⟨Nat.zero_le _, Nat.zero_le _⟩ d_FO_kern_5 ?_
  refine fm_cv S (c_FO_scaled l dC dI o wa sa la sz s0 cI B w st ln 7 k (hB) (hs)) rfl rfl k_FO_scaled q_1_184 ⟨Nat.le_of_ble_eq_true rfl, Nat.le_of_ble_eq_true rfl⟩ (hP.sub [0, 1, 2, 3] rfl) (hK.sub [0] rfl) 0 rfl rfl rfl hl.1 rfl (Nat.le_of_ble_eq_true rfl) ⟨Nat.zero_le _, Nat.zero_le _⟩ d_FO_kern_8 ?_
  exact W.iret hx hb hr (fun t ht hW => ⟨_, rfl, rfl, ht⟩) (fun q hq => by cases hq) d_FO_kern_11
end
