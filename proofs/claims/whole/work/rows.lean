section
/-! Part A of the kit's skeleton, as given: the tables' words -/
/-- a private method of a class that the tables say can be made, by its rows of tables_1 -/
def lw_okq (q : MethodName × Nat) : Prop := (q.1.cls ≠ "java/lang/invoke/MethodHandle" ∧ q.1.cls ≠ "java/lang/invoke/VarHandle") ∧ Cond.instantiable q.1.cls q.2 ∈ tables_1 ∧ Cond.privateMethod q.1 ∈ tables_1 ∧ Cond.instanceMethod q.1 ∈ tables_1
theorem lw_p0 : lw_okq (⟨"BackSteps$Rows", "undo", "(ILBackSteps$Machine;)V"⟩, 13) := ⟨⟨by decide +kernel, by decide +kernel⟩, List.mem_of_getElem? (i := 81) (by decide +kernel), List.mem_of_getElem? (i := 174) (by decide +kernel), List.mem_of_getElem? (i := 175) (by decide +kernel)⟩
theorem lw_p1 : lw_okq (⟨"BackSteps$Machine", "rememberBefore", "()V"⟩, 12) := ⟨⟨by decide +kernel, by decide +kernel⟩, List.mem_of_getElem? (i := 22) (by decide +kernel), List.mem_of_getElem? (i := 186) (by decide +kernel), List.mem_of_getElem? (i := 187) (by decide +kernel)⟩
theorem lw_p2 : lw_okq (⟨"BackSteps$Machine", "write", "(II)V"⟩, 12) := ⟨⟨by decide +kernel, by decide +kernel⟩, List.mem_of_getElem? (i := 22) (by decide +kernel), List.mem_of_getElem? (i := 193) (by decide +kernel), List.mem_of_getElem? (i := 194) (by decide +kernel)⟩
theorem lw_p3 : lw_okq (⟨"BackSteps$Machine", "moveNumbers", "(II)V"⟩, 12) := ⟨⟨by decide +kernel, by decide +kernel⟩, List.mem_of_getElem? (i := 22) (by decide +kernel), List.mem_of_getElem? (i := 197) (by decide +kernel), List.mem_of_getElem? (i := 198) (by decide +kernel)⟩
theorem lw_p4 : lw_okq (⟨"BackSteps$Machine", "compute", "(II)V"⟩, 12) := ⟨⟨by decide +kernel, by decide +kernel⟩, List.mem_of_getElem? (i := 22) (by decide +kernel), List.mem_of_getElem? (i := 201) (by decide +kernel), List.mem_of_getElem? (i := 202) (by decide +kernel)⟩
theorem lw_p5 : lw_okq (⟨"BackSteps$Machine", "stop", "(I)V"⟩, 12) := ⟨⟨by decide +kernel, by decide +kernel⟩, List.mem_of_getElem? (i := 22) (by decide +kernel), List.mem_of_getElem? (i := 205) (by decide +kernel), List.mem_of_getElem? (i := 206) (by decide +kernel)⟩
theorem lw_p6 : lw_okq (⟨"BackSteps$Machine", "changedNumber", "()Z"⟩, 12) := ⟨⟨by decide +kernel, by decide +kernel⟩, List.mem_of_getElem? (i := 22) (by decide +kernel), List.mem_of_getElem? (i := 217) (by decide +kernel), List.mem_of_getElem? (i := 218) (by decide +kernel)⟩
theorem lw_p7 : lw_okq (⟨"BackSteps", "sameRestAt", "(I)Z"⟩, 7) := ⟨⟨by decide +kernel, by decide +kernel⟩, List.mem_of_getElem? (i := 14) (by decide +kernel), List.mem_of_getElem? (i := 221) (by decide +kernel), List.mem_of_getElem? (i := 222) (by decide +kernel)⟩
theorem lw_p8 : lw_okq (⟨"BackSteps", "restAt", "(II)I"⟩, 7) := ⟨⟨by decide +kernel, by decide +kernel⟩, List.mem_of_getElem? (i := 14) (by decide +kernel), List.mem_of_getElem? (i := 229) (by decide +kernel), List.mem_of_getElem? (i := 230) (by decide +kernel)⟩
theorem lw_p9 : lw_okq (⟨"BackSteps", "marksKept", "()I"⟩, 7) := ⟨⟨by decide +kernel, by decide +kernel⟩, List.mem_of_getElem? (i := 14) (by decide +kernel), List.mem_of_getElem? (i := 241) (by decide +kernel), List.mem_of_getElem? (i := 242) (by decide +kernel)⟩
theorem lw_p10 : lw_okq (⟨"BackSteps", "state", "()I"⟩, 7) := ⟨⟨by decide +kernel, by decide +kernel⟩, List.mem_of_getElem? (i := 14) (by decide +kernel), List.mem_of_getElem? (i := 248) (by decide +kernel), List.mem_of_getElem? (i := 249) (by decide +kernel)⟩
theorem lw_p11 : lw_okq (⟨"java/lang/Throwable", "fillInStackTrace", "(I)Ljava/lang/Throwable;"⟩, 6) := ⟨⟨by decide +kernel, by decide +kernel⟩, List.mem_of_getElem? (i := 302) (by decide +kernel), List.mem_of_getElem? (i := 300) (by decide +kernel), List.mem_of_getElem? (i := 301) (by decide +kernel)⟩
theorem lw_p12 : lw_okq (⟨"BackSteps", "checkNumber", "(I)V"⟩, 7) := ⟨⟨by decide +kernel, by decide +kernel⟩, List.mem_of_getElem? (i := 14) (by decide +kernel), List.mem_of_getElem? (i := 363) (by decide +kernel), List.mem_of_getElem? (i := 364) (by decide +kernel)⟩
theorem lw_p13 : lw_okq (⟨"BackSteps$Rows", "dropOldest", "()V"⟩, 13) := ⟨⟨by decide +kernel, by decide +kernel⟩, List.mem_of_getElem? (i := 81) (by decide +kernel), List.mem_of_getElem? (i := 404) (by decide +kernel), List.mem_of_getElem? (i := 405) (by decide +kernel)⟩
theorem lw_p14 : lw_okq (⟨"BackSteps", "checkTime", "(I)V"⟩, 7) := ⟨⟨by decide +kernel, by decide +kernel⟩, List.mem_of_getElem? (i := 14) (by decide +kernel), List.mem_of_getElem? (i := 415) (by decide +kernel), List.mem_of_getElem? (i := 416) (by decide +kernel)⟩
theorem lw_p15 : lw_okq (⟨"BackSteps", "numberAt", "(II)I"⟩, 7) := ⟨⟨by decide +kernel, by decide +kernel⟩, List.mem_of_getElem? (i := 14) (by decide +kernel), List.mem_of_getElem? (i := 432) (by decide +kernel), List.mem_of_getElem? (i := 433) (by decide +kernel)⟩
def lw_privs_1 : List (MethodName × Nat) := [(⟨"BackSteps$Rows", "undo", "(ILBackSteps$Machine;)V"⟩, 13), (⟨"BackSteps$Machine", "rememberBefore", "()V"⟩, 12), (⟨"BackSteps$Machine", "write", "(II)V"⟩, 12), (⟨"BackSteps$Machine", "moveNumbers", "(II)V"⟩, 12), (⟨"BackSteps$Machine", "compute", "(II)V"⟩, 12), (⟨"BackSteps$Machine", "stop", "(I)V"⟩, 12), (⟨"BackSteps$Machine", "changedNumber", "()Z"⟩, 12), (⟨"BackSteps", "sameRestAt", "(I)Z"⟩, 7), (⟨"BackSteps", "restAt", "(II)I"⟩, 7), (⟨"BackSteps", "marksKept", "()I"⟩, 7), (⟨"BackSteps", "state", "()I"⟩, 7), (⟨"java/lang/Throwable", "fillInStackTrace", "(I)Ljava/lang/Throwable;"⟩, 6), (⟨"BackSteps", "checkNumber", "(I)V"⟩, 7), (⟨"BackSteps$Rows", "dropOldest", "()V"⟩, 13), (⟨"BackSteps", "checkTime", "(I)V"⟩, 7), (⟨"BackSteps", "numberAt", "(II)I"⟩, 7)]
theorem lw_r1 : ∀ q ∈ lw_privs_1, lw_okq q := List.forall_mem_cons.mpr ⟨lw_p0, List.forall_mem_cons.mpr ⟨lw_p1, List.forall_mem_cons.mpr ⟨lw_p2, List.forall_mem_cons.mpr ⟨lw_p3, List.forall_mem_cons.mpr ⟨lw_p4, List.forall_mem_cons.mpr ⟨lw_p5, List.forall_mem_cons.mpr ⟨lw_p6, List.forall_mem_cons.mpr ⟨lw_p7, List.forall_mem_cons.mpr ⟨lw_p8, List.forall_mem_cons.mpr ⟨lw_p9, List.forall_mem_cons.mpr ⟨lw_p10, List.forall_mem_cons.mpr ⟨lw_p11, List.forall_mem_cons.mpr ⟨lw_p12, List.forall_mem_cons.mpr ⟨lw_p13, List.forall_mem_cons.mpr ⟨lw_p14, List.forall_mem_cons.mpr ⟨lw_p15, fun _ h => absurd h List.not_mem_nil⟩⟩⟩⟩⟩⟩⟩⟩⟩⟩⟩⟩⟩⟩⟩⟩
theorem lw_p16 : lw_okq (⟨"BackStepsModel", "fail", "(I)I"⟩, 15) := ⟨⟨by decide +kernel, by decide +kernel⟩, List.mem_of_getElem? (i := 470) (by decide +kernel), List.mem_of_getElem? (i := 537) (by decide +kernel), List.mem_of_getElem? (i := 538) (by decide +kernel)⟩
theorem lw_p17 : lw_okq (⟨"BackStepsModel", "stepOnce", "()Z"⟩, 15) := ⟨⟨by decide +kernel, by decide +kernel⟩, List.mem_of_getElem? (i := 470) (by decide +kernel), List.mem_of_getElem? (i := 553) (by decide +kernel), List.mem_of_getElem? (i := 554) (by decide +kernel)⟩
theorem lw_p18 : lw_okq (⟨"BackStepsModel", "save", "()V"⟩, 15) := ⟨⟨by decide +kernel, by decide +kernel⟩, List.mem_of_getElem? (i := 470) (by decide +kernel), List.mem_of_getElem? (i := 557) (by decide +kernel), List.mem_of_getElem? (i := 558) (by decide +kernel)⟩
theorem lw_p19 : lw_okq (⟨"BackStepsModel", "advance", "([II)Z"⟩, 15) := ⟨⟨by decide +kernel, by decide +kernel⟩, List.mem_of_getElem? (i := 470) (by decide +kernel), List.mem_of_getElem? (i := 564) (by decide +kernel), List.mem_of_getElem? (i := 565) (by decide +kernel)⟩
theorem lw_p20 : lw_okq (⟨"BackStepsModel", "costOf", "()I"⟩, 15) := ⟨⟨by decide +kernel, by decide +kernel⟩, List.mem_of_getElem? (i := 470) (by decide +kernel), List.mem_of_getElem? (i := 574) (by decide +kernel), List.mem_of_getElem? (i := 575) (by decide +kernel)⟩
theorem lw_p21 : lw_okq (⟨"BackStepsModel", "allCosts", "()I"⟩, 15) := ⟨⟨by decide +kernel, by decide +kernel⟩, List.mem_of_getElem? (i := 470) (by decide +kernel), List.mem_of_getElem? (i := 578) (by decide +kernel), List.mem_of_getElem? (i := 579) (by decide +kernel)⟩
theorem lw_p22 : lw_okq (⟨"BackStepsModel", "isKept", "(I)Z"⟩, 15) := ⟨⟨by decide +kernel, by decide +kernel⟩, List.mem_of_getElem? (i := 470) (by decide +kernel), List.mem_of_getElem? (i := 586) (by decide +kernel), List.mem_of_getElem? (i := 587) (by decide +kernel)⟩
theorem lw_p23 : lw_okq (⟨"BackStepsModel", "stateAt", "(II)I"⟩, 15) := ⟨⟨by decide +kernel, by decide +kernel⟩, List.mem_of_getElem? (i := 470) (by decide +kernel), List.mem_of_getElem? (i := 590) (by decide +kernel), List.mem_of_getElem? (i := 591) (by decide +kernel)⟩
theorem lw_p24 : lw_okq (⟨"BackStepsModel", "isSame", "(I)Z"⟩, 15) := ⟨⟨by decide +kernel, by decide +kernel⟩, List.mem_of_getElem? (i := 470) (by decide +kernel), List.mem_of_getElem? (i := 610) (by decide +kernel), List.mem_of_getElem? (i := 611) (by decide +kernel)⟩
theorem lw_p25 : lw_okq (⟨"BackStepsModel", "waits", "()Z"⟩, 15) := ⟨⟨by decide +kernel, by decide +kernel⟩, List.mem_of_getElem? (i := 470) (by decide +kernel), List.mem_of_getElem? (i := 622) (by decide +kernel), List.mem_of_getElem? (i := 623) (by decide +kernel)⟩
def lw_privs_2 : List (MethodName × Nat) := [(⟨"BackStepsModel", "fail", "(I)I"⟩, 15), (⟨"BackStepsModel", "stepOnce", "()Z"⟩, 15), (⟨"BackStepsModel", "save", "()V"⟩, 15), (⟨"BackStepsModel", "advance", "([II)Z"⟩, 15), (⟨"BackStepsModel", "costOf", "()I"⟩, 15), (⟨"BackStepsModel", "allCosts", "()I"⟩, 15), (⟨"BackStepsModel", "isKept", "(I)Z"⟩, 15), (⟨"BackStepsModel", "stateAt", "(II)I"⟩, 15), (⟨"BackStepsModel", "isSame", "(I)Z"⟩, 15), (⟨"BackStepsModel", "waits", "()Z"⟩, 15)]
theorem lw_r2 : ∀ q ∈ lw_privs_2, lw_okq q := List.forall_mem_cons.mpr ⟨lw_p16, List.forall_mem_cons.mpr ⟨lw_p17, List.forall_mem_cons.mpr ⟨lw_p18, List.forall_mem_cons.mpr ⟨lw_p19, List.forall_mem_cons.mpr ⟨lw_p20, List.forall_mem_cons.mpr ⟨lw_p21, List.forall_mem_cons.mpr ⟨lw_p22, List.forall_mem_cons.mpr ⟨lw_p23, List.forall_mem_cons.mpr ⟨lw_p24, List.forall_mem_cons.mpr ⟨lw_p25, fun _ h => absurd h List.not_mem_nil⟩⟩⟩⟩⟩⟩⟩⟩⟩⟩
def lw_privs : List (MethodName × Nat) := lw_privs_1 ++ (lw_privs_2)
def lw_tbl : List Cond := k2_sels lw_privs ++ tables_1
theorem lw_privs_ok : ∀ q ∈ lw_privs, lw_okq q := by
  show ∀ q ∈ lw_privs_1 ++ (lw_privs_2), lw_okq q
  exact List.forall_mem_append.mpr ⟨lw_r1, lw_r2⟩

/-- the tables' words that stay true under all that a call resolves -/
def gtb : List Cond := lw_tbl.filter goodWord
theorem g_mem {w : Cond} (i : Nat) (h : tables_1[i]? = some w) (hg : goodWord w = true) : w ∈ gtb := List.mem_filter.mpr ⟨List.mem_append_right _ (List.mem_of_getElem? h), hg⟩
theorem g_memS {w : Cond} (i : Nat) (h : (k2_sels lw_privs)[i]? = some w) (hg : goodWord w = true) : w ∈ gtb := List.mem_filter.mpr ⟨List.mem_append_left _ (List.mem_of_getElem? h), hg⟩
theorem g_memL {w : Cond} (i : Nat) (h : tables_1[i]? = some w) : w ∈ lw_tbl := List.mem_append_right _ (List.mem_of_getElem? h)
def R_Ma : String := "BackSteps$Machine"
def F_Ma : u_T := fun k => match k with
  | 0 => ("BackSteps$Machine", "numbers", "[I", true)
  | 1 => ("BackSteps$Machine", "place", "I", false)
  | 2 => ("BackSteps$Machine", "taken", "I", false)
  | 3 => ("BackSteps$Machine", "outputs", "I", false)
  | 4 => ("BackSteps$Machine", "sum", "I", false)
  | 5 => ("BackSteps$Machine", "halted", "I", false)
  | 6 => ("BackSteps$Machine", "written", "I", false)
  | 7 => ("BackSteps$Machine", "numberBefore", "I", false)
  | 8 => ("BackSteps$Machine", "placeBefore", "I", false)
  | 9 => ("BackSteps$Machine", "takenBefore", "I", false)
  | 10 => ("BackSteps$Machine", "outputsBefore", "I", false)
  | _ => ("BackSteps$Machine", "sumBefore", "I", false)
def t_Ma : Nat → FieldType := fun k => match k with
  | 0 => .array .int
  | 1 => .int
  | 2 => .int
  | 3 => .int
  | 4 => .int
  | 5 => .int
  | 6 => .int
  | 7 => .int
  | 8 => .int
  | 9 => .int
  | 10 => .int
  | _ => .int
abbrev w_Ma : List Cond := u_ws R_Ma F_Ma 12
theorem n_Ma : ∀ a, a < 12 → ∀ b, b < 12 → a ≠ b → (F_Ma a).2.1 ≠ (F_Ma b).2.1 := by decide +kernel
theorem t_Ma_ok : ∀ k, k < 12 → parseFieldDescriptor (F_Ma k).2.2.1 = some (t_Ma k) := by decide +kernel
theorem in_Ma : ∀ w ∈ w_Ma, w ∈ gtb := by decide +kernel
def R_Ro : String := "BackSteps$Rows"
def F_Ro : u_T := fun k => match k with
  | 0 => ("BackSteps$Rows", "room", "I", true)
  | 1 => ("BackSteps$Rows", "now", "I", false)
  | 2 => ("BackSteps$Rows", "oldest", "I", false)
  | 3 => ("BackSteps$Rows", "spent", "I", false)
  | 4 => ("BackSteps$Rows", "gone", "I", false)
  | 5 => ("BackSteps$Rows", "costs", "[I", true)
  | 6 => ("BackSteps$Rows", "written", "[I", true)
  | 7 => ("BackSteps$Rows", "numbersBefore", "[I", true)
  | 8 => ("BackSteps$Rows", "numbersBehind", "[I", true)
  | 9 => ("BackSteps$Rows", "places", "[I", true)
  | 10 => ("BackSteps$Rows", "takens", "[I", true)
  | 11 => ("BackSteps$Rows", "outputs", "[I", true)
  | _ => ("BackSteps$Rows", "sums", "[I", true)
def t_Ro : Nat → FieldType := fun k => match k with
  | 0 => .int
  | 1 => .int
  | 2 => .int
  | 3 => .int
  | 4 => .int
  | 5 => .array .int
  | 6 => .array .int
  | 7 => .array .int
  | 8 => .array .int
  | 9 => .array .int
  | 10 => .array .int
  | 11 => .array .int
  | _ => .array .int
abbrev w_Ro : List Cond := u_ws R_Ro F_Ro 13
theorem n_Ro : ∀ a, a < 13 → ∀ b, b < 13 → a ≠ b → (F_Ro a).2.1 ≠ (F_Ro b).2.1 := by decide +kernel
theorem t_Ro_ok : ∀ k, k < 13 → parseFieldDescriptor (F_Ro k).2.2.1 = some (t_Ro k) := by decide +kernel
theorem in_Ro : ∀ w ∈ w_Ro, w ∈ gtb := by decide +kernel
def R_BS : String := "BackSteps"
def F_BS : u_T := fun k => match k with
  | 0 => ("BackSteps", "markDistance", "I", true)
  | 1 => ("BackSteps", "program", "[I", true)
  | 2 => ("BackSteps", "inputs", "[I", true)
  | 3 => ("BackSteps", "given", "I", false)
  | 4 => ("BackSteps", "machine", "LBackSteps$Machine;", true)
  | 5 => ("BackSteps", "again", "LBackSteps$Machine;", true)
  | _ => ("BackSteps", "rows", "LBackSteps$Rows;", true)
def t_BS : Nat → FieldType := fun k => match k with
  | 0 => .int
  | 1 => .array .int
  | 2 => .array .int
  | 3 => .int
  | 4 => .object "BackSteps$Machine"
  | 5 => .object "BackSteps$Machine"
  | _ => .object "BackSteps$Rows"
abbrev w_BS : List Cond := u_ws R_BS F_BS 7
theorem n_BS : ∀ a, a < 7 → ∀ b, b < 7 → a ≠ b → (F_BS a).2.1 ≠ (F_BS b).2.1 := by decide +kernel
theorem t_BS_ok : ∀ k, k < 7 → parseFieldDescriptor (F_BS k).2.2.1 = some (t_BS k) := by decide +kernel
theorem in_BS : ∀ w ∈ w_BS, w ∈ gtb := by decide +kernel
def R_Mo : String := "BackStepsModel"
def F_Mo : u_T := fun k => match k with
  | 0 => ("BackStepsModel", "thrown", "I", false)
  | 1 => ("BackStepsModel", "room", "I", true)
  | 2 => ("BackStepsModel", "every", "I", true)
  | 3 => ("BackStepsModel", "program", "[I", true)
  | 4 => ("BackStepsModel", "inputs", "I", false)
  | 5 => ("BackStepsModel", "input", "[I", true)
  | 6 => ("BackStepsModel", "now", "[I", true)
  | 7 => ("BackStepsModel", "other", "[I", true)
  | 8 => ("BackStepsModel", "states", "[I", true)
  | 9 => ("BackStepsModel", "costs", "[I", true)
  | 10 => ("BackStepsModel", "writes", "[I", true)
  | 11 => ("BackStepsModel", "time", "I", false)
  | 12 => ("BackStepsModel", "oldest", "I", false)
  | 13 => ("BackStepsModel", "went", "I", false)
  | _ => ("BackStepsModel", "written", "I", false)
def t_Mo : Nat → FieldType := fun k => match k with
  | 0 => .int
  | 1 => .int
  | 2 => .int
  | 3 => .array .int
  | 4 => .int
  | 5 => .array .int
  | 6 => .array .int
  | 7 => .array .int
  | 8 => .array .int
  | 9 => .array .int
  | 10 => .array .int
  | 11 => .int
  | 12 => .int
  | 13 => .int
  | _ => .int
abbrev w_Mo : List Cond := u_ws R_Mo F_Mo 15
theorem n_Mo : ∀ a, a < 15 → ∀ b, b < 15 → a ≠ b → (F_Mo a).2.1 ≠ (F_Mo b).2.1 := by decide +kernel
theorem t_Mo_ok : ∀ k, k < 15 → parseFieldDescriptor (F_Mo k).2.2.1 = some (t_Mo k) := by decide +kernel
theorem in_Mo : ∀ w ∈ w_Mo, w ∈ gtb := by decide +kernel
def R_La : String := "BackStepsLaw"
def R_Mt : String := "java/lang/Math"
abbrev b_BS_init : ByteArray := prog_1_method_1_code
def y_BS_init : MethodName := ⟨R_BS, "<init>", "(II)V"⟩
abbrev b_BS_program : ByteArray := prog_1_method_2_code
def y_BS_program : MethodName := ⟨R_BS, "program", "(II)I"⟩
abbrev b_BS_input : ByteArray := prog_1_method_3_code
def y_BS_input : MethodName := ⟨R_BS, "input", "(I)I"⟩
abbrev b_BS_poke : ByteArray := prog_1_method_4_code
def y_BS_poke : MethodName := ⟨R_BS, "poke", "(II)I"⟩
abbrev b_BS_step : ByteArray := prog_1_method_5_code
def y_BS_step : MethodName := ⟨R_BS, "step", "(I)I"⟩
abbrev b_BS_back : ByteArray := prog_1_method_6_code
def y_BS_back : MethodName := ⟨R_BS, "back", "(I)I"⟩
abbrev b_BS_look : ByteArray := prog_1_method_7_code
def y_BS_look : MethodName := ⟨R_BS, "look", "(II)I"⟩
abbrev b_BS_wrote : ByteArray := prog_1_method_8_code
def y_BS_wrote : MethodName := ⟨R_BS, "wrote", "(I)I"⟩
abbrev b_BS_when : ByteArray := prog_1_method_9_code
def y_BS_when : MethodName := ⟨R_BS, "when", "(III)I"⟩
abbrev b_BS_replay : ByteArray := prog_1_method_10_code
def y_BS_replay : MethodName := ⟨R_BS, "replay", "()I"⟩
abbrev b_BS_cost : ByteArray := prog_1_method_11_code
def y_BS_cost : MethodName := ⟨R_BS, "cost", "(I)I"⟩
abbrev b_BS_count : ByteArray := prog_1_method_12_code
def y_BS_count : MethodName := ⟨R_BS, "count", "(I)I"⟩
abbrev b_BS_checkNumber : ByteArray := prog_1_method_13_code
def y_BS_checkNumber : MethodName := ⟨R_BS, "checkNumber", "(I)V"⟩
abbrev b_BS_checkTime : ByteArray := prog_1_method_14_code
def y_BS_checkTime : MethodName := ⟨R_BS, "checkTime", "(I)V"⟩
abbrev b_BS_numberAt : ByteArray := prog_1_method_15_code
def y_BS_numberAt : MethodName := ⟨R_BS, "numberAt", "(II)I"⟩
abbrev b_BS_restAt : ByteArray := prog_1_method_16_code
def y_BS_restAt : MethodName := ⟨R_BS, "restAt", "(II)I"⟩
abbrev b_BS_sameRestAt : ByteArray := prog_1_method_17_code
def y_BS_sameRestAt : MethodName := ⟨R_BS, "sameRestAt", "(I)Z"⟩
abbrev b_BS_marksKept : ByteArray := prog_1_method_18_code
def y_BS_marksKept : MethodName := ⟨R_BS, "marksKept", "()I"⟩
abbrev b_BS_state : ByteArray := prog_1_method_19_code
def y_BS_state : MethodName := ⟨R_BS, "state", "()I"⟩
abbrev b_Mo_init : ByteArray := prog_5_method_1_code
def y_Mo_init : MethodName := ⟨R_Mo, "<init>", "(II)V"⟩
abbrev b_Mo_modulo : ByteArray := prog_5_method_2_code
def y_Mo_modulo : MethodName := ⟨R_Mo, "modulo", "(II)I"⟩
abbrev b_Mo_thrown : ByteArray := prog_5_method_3_code
def y_Mo_thrown : MethodName := ⟨R_Mo, "thrown", "()I"⟩
abbrev b_Mo_fail : ByteArray := prog_5_method_4_code
def y_Mo_fail : MethodName := ⟨R_Mo, "fail", "(I)I"⟩
abbrev b_Mo_within : ByteArray := prog_5_method_5_code
def y_Mo_within : MethodName := ⟨R_Mo, "within", "(III)Z"⟩
abbrev b_Mo_slot : ByteArray := prog_5_method_6_code
def y_Mo_slot : MethodName := ⟨R_Mo, "slot", "(I)I"⟩
abbrev b_Mo_program : ByteArray := prog_5_method_7_code
def y_Mo_program : MethodName := ⟨R_Mo, "program", "(II)I"⟩
abbrev b_Mo_input : ByteArray := prog_5_method_8_code
def y_Mo_input : MethodName := ⟨R_Mo, "input", "(I)I"⟩
abbrev b_Mo_save : ByteArray := prog_5_method_9_code
def y_Mo_save : MethodName := ⟨R_Mo, "save", "()V"⟩
abbrev b_Mo_stateAt : ByteArray := prog_5_method_10_code
def y_Mo_stateAt : MethodName := ⟨R_Mo, "stateAt", "(II)I"⟩
abbrev b_Mo_poke : ByteArray := prog_5_method_11_code
def y_Mo_poke : MethodName := ⟨R_Mo, "poke", "(II)I"⟩
abbrev b_Mo_kindOf : ByteArray := prog_5_method_12_code
def y_Mo_kindOf : MethodName := ⟨R_Mo, "kindOf", "(I)I"⟩
abbrev b_Mo_result : ByteArray := prog_5_method_13_code
def y_Mo_result : MethodName := ⟨R_Mo, "result", "(IIII)I"⟩
abbrev b_Mo_advance : ByteArray := prog_5_method_14_code
def y_Mo_advance : MethodName := ⟨R_Mo, "advance", "([II)Z"⟩
abbrev b_Mo_costOf : ByteArray := prog_5_method_15_code
def y_Mo_costOf : MethodName := ⟨R_Mo, "costOf", "()I"⟩
abbrev b_Mo_allCosts : ByteArray := prog_5_method_16_code
def y_Mo_allCosts : MethodName := ⟨R_Mo, "allCosts", "()I"⟩
abbrev b_Mo_stepOnce : ByteArray := prog_5_method_17_code
def y_Mo_stepOnce : MethodName := ⟨R_Mo, "stepOnce", "()Z"⟩
abbrev b_Mo_step : ByteArray := prog_5_method_18_code
def y_Mo_step : MethodName := ⟨R_Mo, "step", "(I)I"⟩
abbrev b_Mo_isKept : ByteArray := prog_5_method_19_code
def y_Mo_isKept : MethodName := ⟨R_Mo, "isKept", "(I)Z"⟩
abbrev b_Mo_back : ByteArray := prog_5_method_20_code
def y_Mo_back : MethodName := ⟨R_Mo, "back", "(I)I"⟩
abbrev b_Mo_look : ByteArray := prog_5_method_21_code
def y_Mo_look : MethodName := ⟨R_Mo, "look", "(II)I"⟩
abbrev b_Mo_wrote : ByteArray := prog_5_method_22_code
def y_Mo_wrote : MethodName := ⟨R_Mo, "wrote", "(I)I"⟩
abbrev b_Mo_when : ByteArray := prog_5_method_23_code
def y_Mo_when : MethodName := ⟨R_Mo, "when", "(III)I"⟩
abbrev b_Mo_isSame : ByteArray := prog_5_method_24_code
def y_Mo_isSame : MethodName := ⟨R_Mo, "isSame", "(I)Z"⟩
abbrev b_Mo_replay : ByteArray := prog_5_method_25_code
def y_Mo_replay : MethodName := ⟨R_Mo, "replay", "()I"⟩
abbrev b_Mo_cost : ByteArray := prog_5_method_26_code
def y_Mo_cost : MethodName := ⟨R_Mo, "cost", "(I)I"⟩
abbrev b_Mo_waits : ByteArray := prog_5_method_27_code
def y_Mo_waits : MethodName := ⟨R_Mo, "waits", "()Z"⟩
abbrev b_Mo_count : ByteArray := prog_5_method_28_code
def y_Mo_count : MethodName := ⟨R_Mo, "count", "(I)I"⟩
abbrev b_Ma_init : ByteArray := prog_2_method_1_code
def y_Ma_init : MethodName := ⟨R_Ma, "<init>", "()V"⟩
abbrev b_Ma_copyFrom : ByteArray := prog_2_method_2_code
def y_Ma_copyFrom : MethodName := ⟨R_Ma, "copyFrom", "(LBackSteps$Machine;)V"⟩
abbrev b_Ma_rest : ByteArray := prog_2_method_3_code
def y_Ma_rest : MethodName := ⟨R_Ma, "rest", "(I)I"⟩
abbrev b_Ma_wouldWait : ByteArray := prog_2_method_4_code
def y_Ma_wouldWait : MethodName := ⟨R_Ma, "wouldWait", "([II)Z"⟩
abbrev b_Ma_advance : ByteArray := prog_2_method_5_code
def y_Ma_advance : MethodName := ⟨R_Ma, "advance", "([I[II)Z"⟩
abbrev b_Ma_rememberBefore : ByteArray := prog_2_method_6_code
def y_Ma_rememberBefore : MethodName := ⟨R_Ma, "rememberBefore", "()V"⟩
abbrev b_Ma_moveNumbers : ByteArray := prog_2_method_7_code
def y_Ma_moveNumbers : MethodName := ⟨R_Ma, "moveNumbers", "(II)V"⟩
abbrev b_Ma_compute : ByteArray := prog_2_method_8_code
def y_Ma_compute : MethodName := ⟨R_Ma, "compute", "(II)V"⟩
abbrev b_Ma_register : ByteArray := prog_2_method_9_code
def y_Ma_register : MethodName := ⟨R_Ma, "register", "(II)I"⟩
abbrev b_Ma_write : ByteArray := prog_2_method_10_code
def y_Ma_write : MethodName := ⟨R_Ma, "write", "(II)V"⟩
abbrev b_Ma_stop : ByteArray := prog_2_method_11_code
def y_Ma_stop : MethodName := ⟨R_Ma, "stop", "(I)V"⟩
abbrev b_Ma_changedNothingBut : ByteArray := prog_2_method_12_code
def y_Ma_changedNothingBut : MethodName := ⟨R_Ma, "changedNothingBut", "(I)Z"⟩
abbrev b_Ma_changedNumber : ByteArray := prog_2_method_13_code
def y_Ma_changedNumber : MethodName := ⟨R_Ma, "changedNumber", "()Z"⟩
abbrev b_Ma_costOfLatest : ByteArray := prog_2_method_14_code
def y_Ma_costOfLatest : MethodName := ⟨R_Ma, "costOfLatest", "()I"⟩
abbrev b_Ro_init : ByteArray := prog_3_method_1_code
def y_Ro_init : MethodName := ⟨R_Ro, "<init>", "(I)V"⟩
abbrev b_Ro_slot : ByteArray := prog_3_method_2_code
def y_Ro_slot : MethodName := ⟨R_Ro, "slot", "(I)I"⟩
abbrev b_Ro_keep : ByteArray := prog_3_method_3_code
def y_Ro_keep : MethodName := ⟨R_Ro, "keep", "(LBackSteps$Machine;)V"⟩
abbrev b_Ro_dropOldest : ByteArray := prog_3_method_4_code
def y_Ro_dropOldest : MethodName := ⟨R_Ro, "dropOldest", "()V"⟩
abbrev b_Ro_dropAll : ByteArray := prog_3_method_5_code
def y_Ro_dropAll : MethodName := ⟨R_Ro, "dropAll", "()V"⟩
abbrev b_Ro_forgetBehind : ByteArray := prog_3_method_6_code
def y_Ro_forgetBehind : MethodName := ⟨R_Ro, "forgetBehind", "(I)V"⟩
abbrev b_Ro_undoDownTo : ByteArray := prog_3_method_7_code
def y_Ro_undoDownTo : MethodName := ⟨R_Ro, "undoDownTo", "(ILBackSteps$Machine;)V"⟩
abbrev b_Ro_undo : ByteArray := prog_3_method_8_code
def y_Ro_undo : MethodName := ⟨R_Ro, "undo", "(ILBackSteps$Machine;)V"⟩
abbrev b_Ro_costOf : ByteArray := prog_3_method_9_code
def y_Ro_costOf : MethodName := ⟨R_Ro, "costOf", "(I)I"⟩
abbrev b_Ro_writtenBy : ByteArray := prog_3_method_10_code
def y_Ro_writtenBy : MethodName := ⟨R_Ro, "writtenBy", "(I)I"⟩
abbrev b_Ro_numberBefore : ByteArray := prog_3_method_11_code
def y_Ro_numberBefore : MethodName := ⟨R_Ro, "numberBefore", "(III)I"⟩
abbrev b_Ro_restBefore : ByteArray := prog_3_method_12_code
def y_Ro_restBefore : MethodName := ⟨R_Ro, "restBefore", "(II)I"⟩
abbrev b_Ro_sameNumbersBehind : ByteArray := prog_3_method_13_code
def y_Ro_sameNumbersBehind : MethodName := ⟨R_Ro, "sameNumbersBehind", "(ILBackSteps$Machine;)Z"⟩
abbrev b_La_cell : ByteArray := method_2_code
def y_La_cell : MethodName := ⟨R_La, "cell", "([II)I"⟩
abbrev b_La_program : ByteArray := method_3_code
def y_La_program : MethodName := ⟨R_La, "program", "(LBackSteps;II[J)I"⟩
abbrev b_La_input : ByteArray := method_4_code
def y_La_input : MethodName := ⟨R_La, "input", "(LBackSteps;I[J)I"⟩
abbrev b_La_poke : ByteArray := method_5_code
def y_La_poke : MethodName := ⟨R_La, "poke", "(LBackSteps;II[J)I"⟩
abbrev b_La_step : ByteArray := method_6_code
def y_La_step : MethodName := ⟨R_La, "step", "(LBackSteps;I[J)I"⟩
abbrev b_La_back : ByteArray := method_7_code
def y_La_back : MethodName := ⟨R_La, "back", "(LBackSteps;I[J)I"⟩
abbrev b_La_look : ByteArray := method_8_code
def y_La_look : MethodName := ⟨R_La, "look", "(LBackSteps;II[J)I"⟩
abbrev b_La_wrote : ByteArray := method_9_code
def y_La_wrote : MethodName := ⟨R_La, "wrote", "(LBackSteps;I[J)I"⟩
abbrev b_La_when : ByteArray := method_10_code
def y_La_when : MethodName := ⟨R_La, "when", "(LBackSteps;III[J)I"⟩
abbrev b_La_cost : ByteArray := method_11_code
def y_La_cost : MethodName := ⟨R_La, "cost", "(LBackSteps;I[J)I"⟩
abbrev b_La_law : ByteArray := code
def y_La_law : MethodName := ⟨R_La, "law", "([I)Z"⟩
abbrev b_Mt_floorMod : ByteArray := prog_9_method_50_code
def y_Mt_floorMod : MethodName := ⟨R_Mt, "floorMod", "(II)I"⟩
abbrev b_Mt_floorDiv : ByteArray := prog_9_method_47_code
def y_Mt_floorDiv : MethodName := ⟨R_Mt, "floorDiv", "(II)I"⟩
end
section
theorem d_BS_init_0 : decode b_BS_init 0 = .ok (.aload_n 0, 1) := by decide +kernel
theorem d_BS_init_1 : decode b_BS_init 1 = .ok (.invokespecial 3, 3) := by decide +kernel
theorem d_BS_init_4 : decode b_BS_init 4 = .ok (.aload_n 0, 1) := by decide +kernel
theorem d_BS_init_5 : decode b_BS_init 5 = .ok (.bipush 64, 2) := by decide +kernel
theorem d_BS_init_7 : decode b_BS_init 7 = .ok (.newarray .int, 2) := by decide +kernel
theorem d_BS_init_9 : decode b_BS_init 9 = .ok (.putfield 9, 3) := by decide +kernel
theorem d_BS_init_12 : decode b_BS_init 12 = .ok (.aload_n 0, 1) := by decide +kernel
theorem d_BS_init_13 : decode b_BS_init 13 = .ok (.sipush 200, 3) := by decide +kernel
theorem d_BS_init_16 : decode b_BS_init 16 = .ok (.newarray .int, 2) := by decide +kernel
theorem d_BS_init_18 : decode b_BS_init 18 = .ok (.putfield 13, 3) := by decide +kernel
theorem d_BS_init_21 : decode b_BS_init 21 = .ok (.aload_n 0, 1) := by decide +kernel
theorem d_BS_init_22 : decode b_BS_init 22 = .ok (.new 16, 3) := by decide +kernel
theorem d_BS_init_25 : decode b_BS_init 25 = .ok (.dup, 1) := by decide +kernel
theorem d_BS_init_26 : decode b_BS_init 26 = .ok (.invokespecial 18, 3) := by decide +kernel
theorem d_BS_init_29 : decode b_BS_init 29 = .ok (.putfield 19, 3) := by decide +kernel
theorem d_BS_init_32 : decode b_BS_init 32 = .ok (.aload_n 0, 1) := by decide +kernel
theorem d_BS_init_33 : decode b_BS_init 33 = .ok (.new 16, 3) := by decide +kernel
theorem d_BS_init_36 : decode b_BS_init 36 = .ok (.dup, 1) := by decide +kernel
theorem d_BS_init_37 : decode b_BS_init 37 = .ok (.invokespecial 18, 3) := by decide +kernel
theorem d_BS_init_40 : decode b_BS_init 40 = .ok (.putfield 23, 3) := by decide +kernel
theorem d_BS_init_43 : decode b_BS_init 43 = .ok (.aload_n 0, 1) := by decide +kernel
theorem d_BS_init_44 : decode b_BS_init 44 = .ok (.new 26, 3) := by decide +kernel
theorem d_BS_init_47 : decode b_BS_init 47 = .ok (.dup, 1) := by decide +kernel
theorem d_BS_init_48 : decode b_BS_init 48 = .ok (.iconst 4, 1) := by decide +kernel
theorem d_BS_init_49 : decode b_BS_init 49 = .ok (.iload_n 1, 1) := by decide +kernel
theorem d_BS_init_50 : decode b_BS_init 50 = .ok (.sipush 1021, 3) := by decide +kernel
theorem d_BS_init_53 : decode b_BS_init 53 = .ok (.invokestatic 28, 3) := by decide +kernel
theorem d_BS_init_56 : decode b_BS_init 56 = .ok (.iadd, 1) := by decide +kernel
theorem d_BS_init_57 : decode b_BS_init 57 = .ok (.invokespecial 34, 3) := by decide +kernel
theorem d_BS_init_60 : decode b_BS_init 60 = .ok (.putfield 37, 3) := by decide +kernel
theorem d_BS_init_63 : decode b_BS_init 63 = .ok (.aload_n 0, 1) := by decide +kernel
theorem d_BS_init_64 : decode b_BS_init 64 = .ok (.iconst 1, 1) := by decide +kernel
theorem d_BS_init_65 : decode b_BS_init 65 = .ok (.iload_n 2, 1) := by decide +kernel
theorem d_BS_init_66 : decode b_BS_init 66 = .ok (.bipush 64, 2) := by decide +kernel
theorem d_BS_init_68 : decode b_BS_init 68 = .ok (.invokestatic 28, 3) := by decide +kernel
theorem d_BS_init_71 : decode b_BS_init 71 = .ok (.iadd, 1) := by decide +kernel
theorem d_BS_init_72 : decode b_BS_init 72 = .ok (.putfield 41, 3) := by decide +kernel
theorem d_BS_init_75 : decode b_BS_init 75 = .ok (.return_, 1) := by decide +kernel
theorem d_BS_program_0 : decode b_BS_program 0 = .ok (.iload_n 1, 1) := by decide +kernel
theorem d_BS_program_1 : decode b_BS_program 1 = .ok (.ifCond .lt 9, 3) := by decide +kernel
theorem d_BS_program_4 : decode b_BS_program 4 = .ok (.iload_n 1, 1) := by decide +kernel
theorem d_BS_program_5 : decode b_BS_program 5 = .ok (.bipush 64, 2) := by decide +kernel
theorem d_BS_program_7 : decode b_BS_program 7 = .ok (.if_icmp .lt 13, 3) := by decide +kernel
theorem d_BS_program_10 : decode b_BS_program 10 = .ok (.new 45, 3) := by decide +kernel
theorem d_BS_program_13 : decode b_BS_program 13 = .ok (.dup, 1) := by decide +kernel
theorem d_BS_program_14 : decode b_BS_program 14 = .ok (.ldc 47, 2) := by decide +kernel
theorem d_BS_program_16 : decode b_BS_program 16 = .ok (.invokespecial 49, 3) := by decide +kernel
theorem d_BS_program_19 : decode b_BS_program 19 = .ok (.athrow, 1) := by decide +kernel
theorem d_BS_program_20 : decode b_BS_program 20 = .ok (.aload_n 0, 1) := by decide +kernel
theorem d_BS_program_21 : decode b_BS_program 21 = .ok (.getfield 9, 3) := by decide +kernel
theorem d_BS_program_24 : decode b_BS_program 24 = .ok (.iload_n 1, 1) := by decide +kernel
theorem d_BS_program_25 : decode b_BS_program 25 = .ok (.iaload, 1) := by decide +kernel
theorem d_BS_program_26 : decode b_BS_program 26 = .ok (.istore_n 3, 1) := by decide +kernel
theorem d_BS_program_27 : decode b_BS_program 27 = .ok (.aload_n 0, 1) := by decide +kernel
theorem d_BS_program_28 : decode b_BS_program 28 = .ok (.getfield 9, 3) := by decide +kernel
theorem d_BS_program_31 : decode b_BS_program 31 = .ok (.iload_n 1, 1) := by decide +kernel
theorem d_BS_program_32 : decode b_BS_program 32 = .ok (.iload_n 2, 1) := by decide +kernel
theorem d_BS_program_33 : decode b_BS_program 33 = .ok (.iastore, 1) := by decide +kernel
theorem d_BS_program_34 : decode b_BS_program 34 = .ok (.iload_n 3, 1) := by decide +kernel
theorem d_BS_program_35 : decode b_BS_program 35 = .ok (.ireturn, 1) := by decide +kernel
theorem d_BS_input_0 : decode b_BS_input 0 = .ok (.aload_n 0, 1) := by decide +kernel
theorem d_BS_input_1 : decode b_BS_input 1 = .ok (.getfield 52, 3) := by decide +kernel
theorem d_BS_input_4 : decode b_BS_input 4 = .ok (.sipush 200, 3) := by decide +kernel
theorem d_BS_input_7 : decode b_BS_input 7 = .ok (.if_icmp .lt 13, 3) := by decide +kernel
theorem d_BS_input_10 : decode b_BS_input 10 = .ok (.new 55, 3) := by decide +kernel
theorem d_BS_input_13 : decode b_BS_input 13 = .ok (.dup, 1) := by decide +kernel
theorem d_BS_input_14 : decode b_BS_input 14 = .ok (.ldc 57, 2) := by decide +kernel
theorem d_BS_input_16 : decode b_BS_input 16 = .ok (.invokespecial 59, 3) := by decide +kernel
theorem d_BS_input_19 : decode b_BS_input 19 = .ok (.athrow, 1) := by decide +kernel
theorem d_BS_input_20 : decode b_BS_input 20 = .ok (.aload_n 0, 1) := by decide +kernel
theorem d_BS_input_21 : decode b_BS_input 21 = .ok (.getfield 13, 3) := by decide +kernel
theorem d_BS_input_24 : decode b_BS_input 24 = .ok (.aload_n 0, 1) := by decide +kernel
theorem d_BS_input_25 : decode b_BS_input 25 = .ok (.getfield 52, 3) := by decide +kernel
theorem d_BS_input_28 : decode b_BS_input 28 = .ok (.iload_n 1, 1) := by decide +kernel
theorem d_BS_input_29 : decode b_BS_input 29 = .ok (.iastore, 1) := by decide +kernel
theorem d_BS_input_30 : decode b_BS_input 30 = .ok (.aload_n 0, 1) := by decide +kernel
theorem d_BS_input_31 : decode b_BS_input 31 = .ok (.dup, 1) := by decide +kernel
theorem d_BS_input_32 : decode b_BS_input 32 = .ok (.getfield 52, 3) := by decide +kernel
theorem d_BS_input_35 : decode b_BS_input 35 = .ok (.iconst 1, 1) := by decide +kernel
theorem d_BS_input_36 : decode b_BS_input 36 = .ok (.iadd, 1) := by decide +kernel
theorem d_BS_input_37 : decode b_BS_input 37 = .ok (.putfield 52, 3) := by decide +kernel
theorem d_BS_input_40 : decode b_BS_input 40 = .ok (.aload_n 0, 1) := by decide +kernel
theorem d_BS_input_41 : decode b_BS_input 41 = .ok (.getfield 52, 3) := by decide +kernel
theorem d_BS_input_44 : decode b_BS_input 44 = .ok (.aload_n 0, 1) := by decide +kernel
theorem d_BS_input_45 : decode b_BS_input 45 = .ok (.getfield 19, 3) := by decide +kernel
theorem d_BS_input_48 : decode b_BS_input 48 = .ok (.getfield 60, 3) := by decide +kernel
theorem d_BS_input_51 : decode b_BS_input 51 = .ok (.isub, 1) := by decide +kernel
theorem d_BS_input_52 : decode b_BS_input 52 = .ok (.ireturn, 1) := by decide +kernel
theorem d_BS_poke_0 : decode b_BS_poke 0 = .ok (.aload_n 0, 1) := by decide +kernel
theorem d_BS_poke_1 : decode b_BS_poke 1 = .ok (.iload_n 1, 1) := by decide +kernel
theorem d_BS_poke_2 : decode b_BS_poke 2 = .ok (.invokevirtual 63, 3) := by decide +kernel
theorem d_BS_poke_5 : decode b_BS_poke 5 = .ok (.aload_n 0, 1) := by decide +kernel
theorem d_BS_poke_6 : decode b_BS_poke 6 = .ok (.getfield 19, 3) := by decide +kernel
theorem d_BS_poke_9 : decode b_BS_poke 9 = .ok (.getfield 66, 3) := by decide +kernel
theorem d_BS_poke_12 : decode b_BS_poke 12 = .ok (.iload_n 1, 1) := by decide +kernel
theorem d_BS_poke_13 : decode b_BS_poke 13 = .ok (.iaload, 1) := by decide +kernel
theorem d_BS_poke_14 : decode b_BS_poke 14 = .ok (.istore_n 3, 1) := by decide +kernel
theorem d_BS_poke_15 : decode b_BS_poke 15 = .ok (.aload_n 0, 1) := by decide +kernel
theorem d_BS_poke_16 : decode b_BS_poke 16 = .ok (.getfield 19, 3) := by decide +kernel
theorem d_BS_poke_19 : decode b_BS_poke 19 = .ok (.getfield 66, 3) := by decide +kernel
theorem d_BS_poke_22 : decode b_BS_poke 22 = .ok (.iload_n 1, 1) := by decide +kernel
theorem d_BS_poke_23 : decode b_BS_poke 23 = .ok (.iload_n 2, 1) := by decide +kernel
theorem d_BS_poke_24 : decode b_BS_poke 24 = .ok (.iastore, 1) := by decide +kernel
theorem d_BS_poke_25 : decode b_BS_poke 25 = .ok (.aload_n 0, 1) := by decide +kernel
theorem d_BS_poke_26 : decode b_BS_poke 26 = .ok (.getfield 37, 3) := by decide +kernel
theorem d_BS_poke_29 : decode b_BS_poke 29 = .ok (.invokevirtual 69, 3) := by decide +kernel
theorem d_BS_poke_32 : decode b_BS_poke 32 = .ok (.iload_n 3, 1) := by decide +kernel
theorem d_BS_poke_33 : decode b_BS_poke 33 = .ok (.ireturn, 1) := by decide +kernel
theorem d_BS_step_0 : decode b_BS_step 0 = .ok (.iload_n 1, 1) := by decide +kernel
theorem d_BS_step_1 : decode b_BS_step 1 = .ok (.iconst 1, 1) := by decide +kernel
theorem d_BS_step_2 : decode b_BS_step 2 = .ok (.if_icmp .lt 10, 3) := by decide +kernel
theorem d_BS_step_5 : decode b_BS_step 5 = .ok (.iload_n 1, 1) := by decide +kernel
theorem d_BS_step_6 : decode b_BS_step 6 = .ok (.sipush 2000, 3) := by decide +kernel
theorem d_BS_step_9 : decode b_BS_step 9 = .ok (.if_icmp .le 13, 3) := by decide +kernel
theorem d_BS_step_12 : decode b_BS_step 12 = .ok (.new 72, 3) := by decide +kernel
theorem d_BS_step_15 : decode b_BS_step 15 = .ok (.dup, 1) := by decide +kernel
theorem d_BS_step_16 : decode b_BS_step 16 = .ok (.ldc 74, 2) := by decide +kernel
theorem d_BS_step_18 : decode b_BS_step 18 = .ok (.invokespecial 76, 3) := by decide +kernel
theorem d_BS_step_21 : decode b_BS_step 21 = .ok (.athrow, 1) := by decide +kernel
theorem d_BS_step_22 : decode b_BS_step 22 = .ok (.iconst 0, 1) := by decide +kernel
theorem d_BS_step_23 : decode b_BS_step 23 = .ok (.istore_n 2, 1) := by decide +kernel
theorem d_BS_step_24 : decode b_BS_step 24 = .ok (.iload_n 2, 1) := by decide +kernel
theorem d_BS_step_25 : decode b_BS_step 25 = .ok (.iload_n 1, 1) := by decide +kernel
theorem d_BS_step_26 : decode b_BS_step 26 = .ok (.if_icmp .ge 42, 3) := by decide +kernel
theorem d_BS_step_29 : decode b_BS_step 29 = .ok (.aload_n 0, 1) := by decide +kernel
theorem d_BS_step_30 : decode b_BS_step 30 = .ok (.getfield 19, 3) := by decide +kernel
theorem d_BS_step_33 : decode b_BS_step 33 = .ok (.aload_n 0, 1) := by decide +kernel
theorem d_BS_step_34 : decode b_BS_step 34 = .ok (.getfield 9, 3) := by decide +kernel
theorem d_BS_step_37 : decode b_BS_step 37 = .ok (.aload_n 0, 1) := by decide +kernel
theorem d_BS_step_38 : decode b_BS_step 38 = .ok (.getfield 13, 3) := by decide +kernel
theorem d_BS_step_41 : decode b_BS_step 41 = .ok (.aload_n 0, 1) := by decide +kernel
theorem d_BS_step_42 : decode b_BS_step 42 = .ok (.getfield 52, 3) := by decide +kernel
theorem d_BS_step_45 : decode b_BS_step 45 = .ok (.invokevirtual 77, 3) := by decide +kernel
theorem d_BS_step_48 : decode b_BS_step 48 = .ok (.ifCond .eq 20, 3) := by decide +kernel
theorem d_BS_step_51 : decode b_BS_step 51 = .ok (.aload_n 0, 1) := by decide +kernel
theorem d_BS_step_52 : decode b_BS_step 52 = .ok (.getfield 37, 3) := by decide +kernel
theorem d_BS_step_55 : decode b_BS_step 55 = .ok (.aload_n 0, 1) := by decide +kernel
theorem d_BS_step_56 : decode b_BS_step 56 = .ok (.getfield 19, 3) := by decide +kernel
theorem d_BS_step_59 : decode b_BS_step 59 = .ok (.invokevirtual 81, 3) := by decide +kernel
theorem d_BS_step_62 : decode b_BS_step 62 = .ok (.iinc 2 1, 3) := by decide +kernel
theorem d_BS_step_65 : decode b_BS_step 65 = .ok (.goto (-41), 3) := by decide +kernel
theorem d_BS_step_68 : decode b_BS_step 68 = .ok (.iload_n 2, 1) := by decide +kernel
theorem d_BS_step_69 : decode b_BS_step 69 = .ok (.ireturn, 1) := by decide +kernel
theorem d_BS_back_0 : decode b_BS_back 0 = .ok (.aload_n 0, 1) := by decide +kernel
theorem d_BS_back_1 : decode b_BS_back 1 = .ok (.iload_n 1, 1) := by decide +kernel
theorem d_BS_back_2 : decode b_BS_back 2 = .ok (.invokevirtual 85, 3) := by decide +kernel
theorem d_BS_back_5 : decode b_BS_back 5 = .ok (.aload_n 0, 1) := by decide +kernel
theorem d_BS_back_6 : decode b_BS_back 6 = .ok (.getfield 37, 3) := by decide +kernel
theorem d_BS_back_9 : decode b_BS_back 9 = .ok (.getfield 88, 3) := by decide +kernel
theorem d_BS_back_12 : decode b_BS_back 12 = .ok (.iload_n 1, 1) := by decide +kernel
theorem d_BS_back_13 : decode b_BS_back 13 = .ok (.isub, 1) := by decide +kernel
theorem d_BS_back_14 : decode b_BS_back 14 = .ok (.istore_n 2, 1) := by decide +kernel
theorem d_BS_back_15 : decode b_BS_back 15 = .ok (.aload_n 0, 1) := by decide +kernel
theorem d_BS_back_16 : decode b_BS_back 16 = .ok (.getfield 37, 3) := by decide +kernel
theorem d_BS_back_19 : decode b_BS_back 19 = .ok (.iload_n 1, 1) := by decide +kernel
theorem d_BS_back_20 : decode b_BS_back 20 = .ok (.aload_n 0, 1) := by decide +kernel
theorem d_BS_back_21 : decode b_BS_back 21 = .ok (.getfield 19, 3) := by decide +kernel
theorem d_BS_back_24 : decode b_BS_back 24 = .ok (.invokevirtual 91, 3) := by decide +kernel
theorem d_BS_back_27 : decode b_BS_back 27 = .ok (.aload_n 0, 1) := by decide +kernel
theorem d_BS_back_28 : decode b_BS_back 28 = .ok (.getfield 37, 3) := by decide +kernel
theorem d_BS_back_31 : decode b_BS_back 31 = .ok (.iload_n 1, 1) := by decide +kernel
theorem d_BS_back_32 : decode b_BS_back 32 = .ok (.invokevirtual 95, 3) := by decide +kernel
theorem d_BS_back_35 : decode b_BS_back 35 = .ok (.iload_n 2, 1) := by decide +kernel
theorem d_BS_back_36 : decode b_BS_back 36 = .ok (.ireturn, 1) := by decide +kernel
theorem d_BS_look_0 : decode b_BS_look 0 = .ok (.aload_n 0, 1) := by decide +kernel
theorem d_BS_look_1 : decode b_BS_look 1 = .ok (.iload_n 1, 1) := by decide +kernel
theorem d_BS_look_2 : decode b_BS_look 2 = .ok (.invokevirtual 85, 3) := by decide +kernel
theorem d_BS_look_5 : decode b_BS_look 5 = .ok (.iload_n 2, 1) := by decide +kernel
theorem d_BS_look_6 : decode b_BS_look 6 = .ok (.ifCond .lt 10, 3) := by decide +kernel
theorem d_BS_look_9 : decode b_BS_look 9 = .ok (.iload_n 2, 1) := by decide +kernel
theorem d_BS_look_10 : decode b_BS_look 10 = .ok (.sipush 268, 3) := by decide +kernel
theorem d_BS_look_13 : decode b_BS_look 13 = .ok (.if_icmp .le 13, 3) := by decide +kernel
theorem d_BS_look_16 : decode b_BS_look 16 = .ok (.new 45, 3) := by decide +kernel
theorem d_BS_look_19 : decode b_BS_look 19 = .ok (.dup, 1) := by decide +kernel
theorem d_BS_look_20 : decode b_BS_look 20 = .ok (.ldc 98, 2) := by decide +kernel
theorem d_BS_look_22 : decode b_BS_look 22 = .ok (.invokespecial 49, 3) := by decide +kernel
theorem d_BS_look_25 : decode b_BS_look 25 = .ok (.athrow, 1) := by decide +kernel
theorem d_BS_look_26 : decode b_BS_look 26 = .ok (.iload_n 2, 1) := by decide +kernel
theorem d_BS_look_27 : decode b_BS_look 27 = .ok (.sipush 264, 3) := by decide +kernel
theorem d_BS_look_30 : decode b_BS_look 30 = .ok (.if_icmp .ge 12, 3) := by decide +kernel
theorem d_BS_look_33 : decode b_BS_look 33 = .ok (.aload_n 0, 1) := by decide +kernel
theorem d_BS_look_34 : decode b_BS_look 34 = .ok (.iload_n 1, 1) := by decide +kernel
theorem d_BS_look_35 : decode b_BS_look 35 = .ok (.iload_n 2, 1) := by decide +kernel
theorem d_BS_look_36 : decode b_BS_look 36 = .ok (.invokevirtual 100, 3) := by decide +kernel
theorem d_BS_look_39 : decode b_BS_look 39 = .ok (.goto 9, 3) := by decide +kernel
theorem d_BS_look_42 : decode b_BS_look 42 = .ok (.aload_n 0, 1) := by decide +kernel
theorem d_BS_look_43 : decode b_BS_look 43 = .ok (.iload_n 1, 1) := by decide +kernel
theorem d_BS_look_44 : decode b_BS_look 44 = .ok (.iload_n 2, 1) := by decide +kernel
theorem d_BS_look_45 : decode b_BS_look 45 = .ok (.invokevirtual 103, 3) := by decide +kernel
theorem d_BS_look_48 : decode b_BS_look 48 = .ok (.ireturn, 1) := by decide +kernel
theorem d_BS_wrote_0 : decode b_BS_wrote 0 = .ok (.aload_n 0, 1) := by decide +kernel
theorem d_BS_wrote_1 : decode b_BS_wrote 1 = .ok (.iload_n 1, 1) := by decide +kernel
theorem d_BS_wrote_2 : decode b_BS_wrote 2 = .ok (.invokevirtual 63, 3) := by decide +kernel
theorem d_BS_wrote_5 : decode b_BS_wrote 5 = .ok (.aload_n 0, 1) := by decide +kernel
theorem d_BS_wrote_6 : decode b_BS_wrote 6 = .ok (.getfield 37, 3) := by decide +kernel
theorem d_BS_wrote_9 : decode b_BS_wrote 9 = .ok (.getfield 88, 3) := by decide +kernel
theorem d_BS_wrote_12 : decode b_BS_wrote 12 = .ok (.istore_n 2, 1) := by decide +kernel
theorem d_BS_wrote_13 : decode b_BS_wrote 13 = .ok (.iload_n 2, 1) := by decide +kernel
theorem d_BS_wrote_14 : decode b_BS_wrote 14 = .ok (.aload_n 0, 1) := by decide +kernel
theorem d_BS_wrote_15 : decode b_BS_wrote 15 = .ok (.getfield 37, 3) := by decide +kernel
theorem d_BS_wrote_18 : decode b_BS_wrote 18 = .ok (.getfield 106, 3) := by decide +kernel
theorem d_BS_wrote_21 : decode b_BS_wrote 21 = .ok (.if_icmp .le 25, 3) := by decide +kernel
theorem d_BS_wrote_24 : decode b_BS_wrote 24 = .ok (.aload_n 0, 1) := by decide +kernel
theorem d_BS_wrote_25 : decode b_BS_wrote 25 = .ok (.getfield 37, 3) := by decide +kernel
theorem d_BS_wrote_28 : decode b_BS_wrote 28 = .ok (.iload_n 2, 1) := by decide +kernel
theorem d_BS_wrote_29 : decode b_BS_wrote 29 = .ok (.iconst 1, 1) := by decide +kernel
theorem d_BS_wrote_30 : decode b_BS_wrote 30 = .ok (.isub, 1) := by decide +kernel
theorem d_BS_wrote_31 : decode b_BS_wrote 31 = .ok (.invokevirtual 109, 3) := by decide +kernel
theorem d_BS_wrote_34 : decode b_BS_wrote 34 = .ok (.iload_n 1, 1) := by decide +kernel
theorem d_BS_wrote_35 : decode b_BS_wrote 35 = .ok (.if_icmp .ne 5, 3) := by decide +kernel
theorem d_BS_wrote_38 : decode b_BS_wrote 38 = .ok (.iload_n 2, 1) := by decide +kernel
theorem d_BS_wrote_39 : decode b_BS_wrote 39 = .ok (.ireturn, 1) := by decide +kernel
theorem d_BS_wrote_40 : decode b_BS_wrote 40 = .ok (.iinc 2 (-1), 3) := by decide +kernel
theorem d_BS_wrote_43 : decode b_BS_wrote 43 = .ok (.goto (-30), 3) := by decide +kernel
theorem d_BS_wrote_46 : decode b_BS_wrote 46 = .ok (.iconst (-1), 1) := by decide +kernel
theorem d_BS_wrote_47 : decode b_BS_wrote 47 = .ok (.ireturn, 1) := by decide +kernel
theorem d_BS_when_0 : decode b_BS_when 0 = .ok (.aload_n 0, 1) := by decide +kernel
theorem d_BS_when_1 : decode b_BS_when 1 = .ok (.iload_n 1, 1) := by decide +kernel
theorem d_BS_when_2 : decode b_BS_when 2 = .ok (.invokevirtual 85, 3) := by decide +kernel
theorem d_BS_when_5 : decode b_BS_when 5 = .ok (.aload_n 0, 1) := by decide +kernel
theorem d_BS_when_6 : decode b_BS_when 6 = .ok (.iload_n 2, 1) := by decide +kernel
theorem d_BS_when_7 : decode b_BS_when 7 = .ok (.invokevirtual 63, 3) := by decide +kernel
theorem d_BS_when_10 : decode b_BS_when 10 = .ok (.aload_n 0, 1) := by decide +kernel
theorem d_BS_when_11 : decode b_BS_when 11 = .ok (.iload_n 1, 1) := by decide +kernel
theorem d_BS_when_12 : decode b_BS_when 12 = .ok (.iload_n 2, 1) := by decide +kernel
theorem d_BS_when_13 : decode b_BS_when 13 = .ok (.invokevirtual 100, 3) := by decide +kernel
theorem d_BS_when_16 : decode b_BS_when 16 = .ok (.istore 4, 2) := by decide +kernel
theorem d_BS_when_18 : decode b_BS_when 18 = .ok (.iload_n 1, 1) := by decide +kernel
theorem d_BS_when_19 : decode b_BS_when 19 = .ok (.istore 5, 2) := by decide +kernel
theorem d_BS_when_21 : decode b_BS_when 21 = .ok (.iload 5, 2) := by decide +kernel
theorem d_BS_when_23 : decode b_BS_when 23 = .ok (.aload_n 0, 1) := by decide +kernel
theorem d_BS_when_24 : decode b_BS_when 24 = .ok (.getfield 37, 3) := by decide +kernel
theorem d_BS_when_27 : decode b_BS_when 27 = .ok (.getfield 106, 3) := by decide +kernel
theorem d_BS_when_30 : decode b_BS_when 30 = .ok (.if_icmp .le 34, 3) := by decide +kernel
theorem d_BS_when_33 : decode b_BS_when 33 = .ok (.iload 4, 2) := by decide +kernel
theorem d_BS_when_35 : decode b_BS_when 35 = .ok (.iload_n 3, 1) := by decide +kernel
theorem d_BS_when_36 : decode b_BS_when 36 = .ok (.if_icmp .ne 6, 3) := by decide +kernel
theorem d_BS_when_39 : decode b_BS_when 39 = .ok (.iload 5, 2) := by decide +kernel
theorem d_BS_when_41 : decode b_BS_when 41 = .ok (.ireturn, 1) := by decide +kernel
theorem d_BS_when_42 : decode b_BS_when 42 = .ok (.aload_n 0, 1) := by decide +kernel
theorem d_BS_when_43 : decode b_BS_when 43 = .ok (.getfield 37, 3) := by decide +kernel
theorem d_BS_when_46 : decode b_BS_when 46 = .ok (.iload 5, 2) := by decide +kernel
theorem d_BS_when_48 : decode b_BS_when 48 = .ok (.iconst 1, 1) := by decide +kernel
theorem d_BS_when_49 : decode b_BS_when 49 = .ok (.isub, 1) := by decide +kernel
theorem d_BS_when_50 : decode b_BS_when 50 = .ok (.iload_n 2, 1) := by decide +kernel
theorem d_BS_when_51 : decode b_BS_when 51 = .ok (.iload 4, 2) := by decide +kernel
theorem d_BS_when_53 : decode b_BS_when 53 = .ok (.invokevirtual 113, 3) := by decide +kernel
theorem d_BS_when_56 : decode b_BS_when 56 = .ok (.istore 4, 2) := by decide +kernel
theorem d_BS_when_58 : decode b_BS_when 58 = .ok (.iinc 5 (-1), 3) := by decide +kernel
theorem d_BS_when_61 : decode b_BS_when 61 = .ok (.goto (-40), 3) := by decide +kernel
theorem d_BS_when_64 : decode b_BS_when 64 = .ok (.iload 4, 2) := by decide +kernel
theorem d_BS_when_66 : decode b_BS_when 66 = .ok (.iload_n 3, 1) := by decide +kernel
theorem d_BS_when_67 : decode b_BS_when 67 = .ok (.if_icmp .ne 13, 3) := by decide +kernel
theorem d_BS_when_70 : decode b_BS_when 70 = .ok (.aload_n 0, 1) := by decide +kernel
theorem d_BS_when_71 : decode b_BS_when 71 = .ok (.getfield 37, 3) := by decide +kernel
theorem d_BS_when_74 : decode b_BS_when 74 = .ok (.getfield 106, 3) := by decide +kernel
theorem d_BS_when_77 : decode b_BS_when 77 = .ok (.goto 4, 3) := by decide +kernel
theorem d_BS_when_80 : decode b_BS_when 80 = .ok (.iconst (-1), 1) := by decide +kernel
theorem d_BS_when_81 : decode b_BS_when 81 = .ok (.ireturn, 1) := by decide +kernel
theorem d_BS_replay_0 : decode b_BS_replay 0 = .ok (.aload_n 0, 1) := by decide +kernel
theorem d_BS_replay_1 : decode b_BS_replay 1 = .ok (.getfield 23, 3) := by decide +kernel
theorem d_BS_replay_4 : decode b_BS_replay 4 = .ok (.aload_n 0, 1) := by decide +kernel
theorem d_BS_replay_5 : decode b_BS_replay 5 = .ok (.getfield 19, 3) := by decide +kernel
theorem d_BS_replay_8 : decode b_BS_replay 8 = .ok (.invokevirtual 117, 3) := by decide +kernel
theorem d_BS_replay_11 : decode b_BS_replay 11 = .ok (.aload_n 0, 1) := by decide +kernel
theorem d_BS_replay_12 : decode b_BS_replay 12 = .ok (.getfield 37, 3) := by decide +kernel
theorem d_BS_replay_15 : decode b_BS_replay 15 = .ok (.aload_n 0, 1) := by decide +kernel
theorem d_BS_replay_16 : decode b_BS_replay 16 = .ok (.getfield 37, 3) := by decide +kernel
theorem d_BS_replay_19 : decode b_BS_replay 19 = .ok (.getfield 106, 3) := by decide +kernel
theorem d_BS_replay_22 : decode b_BS_replay 22 = .ok (.aload_n 0, 1) := by decide +kernel
theorem d_BS_replay_23 : decode b_BS_replay 23 = .ok (.getfield 23, 3) := by decide +kernel
theorem d_BS_replay_26 : decode b_BS_replay 26 = .ok (.invokevirtual 91, 3) := by decide +kernel
theorem d_BS_replay_29 : decode b_BS_replay 29 = .ok (.aload_n 0, 1) := by decide +kernel
theorem d_BS_replay_30 : decode b_BS_replay 30 = .ok (.getfield 37, 3) := by decide +kernel
theorem d_BS_replay_33 : decode b_BS_replay 33 = .ok (.getfield 106, 3) := by decide +kernel
theorem d_BS_replay_36 : decode b_BS_replay 36 = .ok (.istore_n 1, 1) := by decide +kernel
theorem d_BS_replay_37 : decode b_BS_replay 37 = .ok (.iload_n 1, 1) := by decide +kernel
theorem d_BS_replay_38 : decode b_BS_replay 38 = .ok (.aload_n 0, 1) := by decide +kernel
theorem d_BS_replay_39 : decode b_BS_replay 39 = .ok (.getfield 37, 3) := by decide +kernel
theorem d_BS_replay_42 : decode b_BS_replay 42 = .ok (.getfield 88, 3) := by decide +kernel
theorem d_BS_replay_45 : decode b_BS_replay 45 = .ok (.if_icmp .ge 65, 3) := by decide +kernel
theorem d_BS_replay_48 : decode b_BS_replay 48 = .ok (.aload_n 0, 1) := by decide +kernel
theorem d_BS_replay_49 : decode b_BS_replay 49 = .ok (.getfield 23, 3) := by decide +kernel
theorem d_BS_replay_52 : decode b_BS_replay 52 = .ok (.aload_n 0, 1) := by decide +kernel
theorem d_BS_replay_53 : decode b_BS_replay 53 = .ok (.getfield 9, 3) := by decide +kernel
theorem d_BS_replay_56 : decode b_BS_replay 56 = .ok (.aload_n 0, 1) := by decide +kernel
theorem d_BS_replay_57 : decode b_BS_replay 57 = .ok (.getfield 13, 3) := by decide +kernel
theorem d_BS_replay_60 : decode b_BS_replay 60 = .ok (.aload_n 0, 1) := by decide +kernel
theorem d_BS_replay_61 : decode b_BS_replay 61 = .ok (.getfield 19, 3) := by decide +kernel
theorem d_BS_replay_64 : decode b_BS_replay 64 = .ok (.getfield 60, 3) := by decide +kernel
theorem d_BS_replay_67 : decode b_BS_replay 67 = .ok (.invokevirtual 77, 3) := by decide +kernel
theorem d_BS_replay_70 : decode b_BS_replay 70 = .ok (.istore_n 2, 1) := by decide +kernel
theorem d_BS_replay_71 : decode b_BS_replay 71 = .ok (.iload_n 2, 1) := by decide +kernel
theorem d_BS_replay_72 : decode b_BS_replay 72 = .ok (.ifCond .eq 28, 3) := by decide +kernel
theorem d_BS_replay_75 : decode b_BS_replay 75 = .ok (.aload_n 0, 1) := by decide +kernel
theorem d_BS_replay_76 : decode b_BS_replay 76 = .ok (.getfield 37, 3) := by decide +kernel
theorem d_BS_replay_79 : decode b_BS_replay 79 = .ok (.iload_n 1, 1) := by decide +kernel
theorem d_BS_replay_80 : decode b_BS_replay 80 = .ok (.aload_n 0, 1) := by decide +kernel
theorem d_BS_replay_81 : decode b_BS_replay 81 = .ok (.getfield 23, 3) := by decide +kernel
theorem d_BS_replay_84 : decode b_BS_replay 84 = .ok (.invokevirtual 120, 3) := by decide +kernel
theorem d_BS_replay_87 : decode b_BS_replay 87 = .ok (.ifCond .eq 13, 3) := by decide +kernel
theorem d_BS_replay_90 : decode b_BS_replay 90 = .ok (.aload_n 0, 1) := by decide +kernel
theorem d_BS_replay_91 : decode b_BS_replay 91 = .ok (.iload_n 1, 1) := by decide +kernel
theorem d_BS_replay_92 : decode b_BS_replay 92 = .ok (.iconst 1, 1) := by decide +kernel
theorem d_BS_replay_93 : decode b_BS_replay 93 = .ok (.iadd, 1) := by decide +kernel
theorem d_BS_replay_94 : decode b_BS_replay 94 = .ok (.invokevirtual 124, 3) := by decide +kernel
theorem d_BS_replay_97 : decode b_BS_replay 97 = .ok (.ifCond .ne 7, 3) := by decide +kernel
theorem d_BS_replay_100 : decode b_BS_replay 100 = .ok (.iload_n 1, 1) := by decide +kernel
theorem d_BS_replay_101 : decode b_BS_replay 101 = .ok (.iconst 1, 1) := by decide +kernel
theorem d_BS_replay_102 : decode b_BS_replay 102 = .ok (.iadd, 1) := by decide +kernel
theorem d_BS_replay_103 : decode b_BS_replay 103 = .ok (.ireturn, 1) := by decide +kernel
theorem d_BS_replay_104 : decode b_BS_replay 104 = .ok (.iinc 1 1, 3) := by decide +kernel
theorem d_BS_replay_107 : decode b_BS_replay 107 = .ok (.goto (-70), 3) := by decide +kernel
theorem d_BS_replay_110 : decode b_BS_replay 110 = .ok (.iconst (-1), 1) := by decide +kernel
theorem d_BS_replay_111 : decode b_BS_replay 111 = .ok (.ireturn, 1) := by decide +kernel
theorem d_BS_cost_0 : decode b_BS_cost 0 = .ok (.iload_n 1, 1) := by decide +kernel
theorem d_BS_cost_1 : decode b_BS_cost 1 = .ok (.aload_n 0, 1) := by decide +kernel
theorem d_BS_cost_2 : decode b_BS_cost 2 = .ok (.getfield 37, 3) := by decide +kernel
theorem d_BS_cost_5 : decode b_BS_cost 5 = .ok (.getfield 106, 3) := by decide +kernel
theorem d_BS_cost_8 : decode b_BS_cost 8 = .ok (.if_icmp .lt 14, 3) := by decide +kernel
theorem d_BS_cost_11 : decode b_BS_cost 11 = .ok (.iload_n 1, 1) := by decide +kernel
theorem d_BS_cost_12 : decode b_BS_cost 12 = .ok (.aload_n 0, 1) := by decide +kernel
theorem d_BS_cost_13 : decode b_BS_cost 13 = .ok (.getfield 37, 3) := by decide +kernel
theorem d_BS_cost_16 : decode b_BS_cost 16 = .ok (.getfield 88, 3) := by decide +kernel
theorem d_BS_cost_19 : decode b_BS_cost 19 = .ok (.if_icmp .lt 13, 3) := by decide +kernel
theorem d_BS_cost_22 : decode b_BS_cost 22 = .ok (.new 72, 3) := by decide +kernel
theorem d_BS_cost_25 : decode b_BS_cost 25 = .ok (.dup, 1) := by decide +kernel
theorem d_BS_cost_26 : decode b_BS_cost 26 = .ok (.ldc 128, 2) := by decide +kernel
theorem d_BS_cost_28 : decode b_BS_cost 28 = .ok (.invokespecial 76, 3) := by decide +kernel
theorem d_BS_cost_31 : decode b_BS_cost 31 = .ok (.athrow, 1) := by decide +kernel
theorem d_BS_cost_32 : decode b_BS_cost 32 = .ok (.aload_n 0, 1) := by decide +kernel
theorem d_BS_cost_33 : decode b_BS_cost 33 = .ok (.getfield 37, 3) := by decide +kernel
theorem d_BS_cost_36 : decode b_BS_cost 36 = .ok (.iload_n 1, 1) := by decide +kernel
theorem d_BS_cost_37 : decode b_BS_cost 37 = .ok (.invokevirtual 130, 3) := by decide +kernel
theorem d_BS_cost_40 : decode b_BS_cost 40 = .ok (.ireturn, 1) := by decide +kernel
theorem d_BS_count_0 : decode b_BS_count 0 = .ok (.iload_n 1, 1) := by decide +kernel
theorem d_BS_count_1 : decode b_BS_count 1 = .ok (.tableswitch 90 0 6 #[43, 51, 59, 67, 75, 80, 85], 43) := by decide +kernel
theorem d_BS_count_44 : decode b_BS_count 44 = .ok (.aload_n 0, 1) := by decide +kernel
theorem d_BS_count_45 : decode b_BS_count 45 = .ok (.getfield 37, 3) := by decide +kernel
theorem d_BS_count_48 : decode b_BS_count 48 = .ok (.getfield 88, 3) := by decide +kernel
theorem d_BS_count_51 : decode b_BS_count 51 = .ok (.ireturn, 1) := by decide +kernel
theorem d_BS_count_52 : decode b_BS_count 52 = .ok (.aload_n 0, 1) := by decide +kernel
theorem d_BS_count_53 : decode b_BS_count 53 = .ok (.getfield 37, 3) := by decide +kernel
theorem d_BS_count_56 : decode b_BS_count 56 = .ok (.getfield 106, 3) := by decide +kernel
theorem d_BS_count_59 : decode b_BS_count 59 = .ok (.ireturn, 1) := by decide +kernel
theorem d_BS_count_60 : decode b_BS_count 60 = .ok (.aload_n 0, 1) := by decide +kernel
theorem d_BS_count_61 : decode b_BS_count 61 = .ok (.getfield 37, 3) := by decide +kernel
theorem d_BS_count_64 : decode b_BS_count 64 = .ok (.getfield 133, 3) := by decide +kernel
theorem d_BS_count_67 : decode b_BS_count 67 = .ok (.ireturn, 1) := by decide +kernel
theorem d_BS_count_68 : decode b_BS_count 68 = .ok (.aload_n 0, 1) := by decide +kernel
theorem d_BS_count_69 : decode b_BS_count 69 = .ok (.getfield 37, 3) := by decide +kernel
theorem d_BS_count_72 : decode b_BS_count 72 = .ok (.getfield 136, 3) := by decide +kernel
theorem d_BS_count_75 : decode b_BS_count 75 = .ok (.ireturn, 1) := by decide +kernel
theorem d_BS_count_76 : decode b_BS_count 76 = .ok (.aload_n 0, 1) := by decide +kernel
theorem d_BS_count_77 : decode b_BS_count 77 = .ok (.getfield 52, 3) := by decide +kernel
theorem d_BS_count_80 : decode b_BS_count 80 = .ok (.ireturn, 1) := by decide +kernel
theorem d_BS_count_81 : decode b_BS_count 81 = .ok (.aload_n 0, 1) := by decide +kernel
theorem d_BS_count_82 : decode b_BS_count 82 = .ok (.invokevirtual 139, 3) := by decide +kernel
theorem d_BS_count_85 : decode b_BS_count 85 = .ok (.ireturn, 1) := by decide +kernel
theorem d_BS_count_86 : decode b_BS_count 86 = .ok (.aload_n 0, 1) := by decide +kernel
theorem d_BS_count_87 : decode b_BS_count 87 = .ok (.invokevirtual 143, 3) := by decide +kernel
theorem d_BS_count_90 : decode b_BS_count 90 = .ok (.ireturn, 1) := by decide +kernel
theorem d_BS_count_91 : decode b_BS_count 91 = .ok (.iconst (-1), 1) := by decide +kernel
theorem d_BS_count_92 : decode b_BS_count 92 = .ok (.ireturn, 1) := by decide +kernel
theorem d_BS_checkNumber_0 : decode b_BS_checkNumber 0 = .ok (.iload_n 1, 1) := by decide +kernel
theorem d_BS_checkNumber_1 : decode b_BS_checkNumber 1 = .ok (.ifCond .lt 10, 3) := by decide +kernel
theorem d_BS_checkNumber_4 : decode b_BS_checkNumber 4 = .ok (.iload_n 1, 1) := by decide +kernel
theorem d_BS_checkNumber_5 : decode b_BS_checkNumber 5 = .ok (.sipush 264, 3) := by decide +kernel
theorem d_BS_checkNumber_8 : decode b_BS_checkNumber 8 = .ok (.if_icmp .lt 13, 3) := by decide +kernel
theorem d_BS_checkNumber_11 : decode b_BS_checkNumber 11 = .ok (.new 45, 3) := by decide +kernel
theorem d_BS_checkNumber_14 : decode b_BS_checkNumber 14 = .ok (.dup, 1) := by decide +kernel
theorem d_BS_checkNumber_15 : decode b_BS_checkNumber 15 = .ok (.ldc 146, 2) := by decide +kernel
theorem d_BS_checkNumber_17 : decode b_BS_checkNumber 17 = .ok (.invokespecial 49, 3) := by decide +kernel
theorem d_BS_checkNumber_20 : decode b_BS_checkNumber 20 = .ok (.athrow, 1) := by decide +kernel
theorem d_BS_checkNumber_21 : decode b_BS_checkNumber 21 = .ok (.return_, 1) := by decide +kernel
theorem d_BS_checkTime_0 : decode b_BS_checkTime 0 = .ok (.iload_n 1, 1) := by decide +kernel
theorem d_BS_checkTime_1 : decode b_BS_checkTime 1 = .ok (.aload_n 0, 1) := by decide +kernel
theorem d_BS_checkTime_2 : decode b_BS_checkTime 2 = .ok (.getfield 37, 3) := by decide +kernel
theorem d_BS_checkTime_5 : decode b_BS_checkTime 5 = .ok (.getfield 106, 3) := by decide +kernel
theorem d_BS_checkTime_8 : decode b_BS_checkTime 8 = .ok (.if_icmp .lt 14, 3) := by decide +kernel
theorem d_BS_checkTime_11 : decode b_BS_checkTime 11 = .ok (.iload_n 1, 1) := by decide +kernel
theorem d_BS_checkTime_12 : decode b_BS_checkTime 12 = .ok (.aload_n 0, 1) := by decide +kernel
theorem d_BS_checkTime_13 : decode b_BS_checkTime 13 = .ok (.getfield 37, 3) := by decide +kernel
theorem d_BS_checkTime_16 : decode b_BS_checkTime 16 = .ok (.getfield 88, 3) := by decide +kernel
theorem d_BS_checkTime_19 : decode b_BS_checkTime 19 = .ok (.if_icmp .le 13, 3) := by decide +kernel
theorem d_BS_checkTime_22 : decode b_BS_checkTime 22 = .ok (.new 72, 3) := by decide +kernel
theorem d_BS_checkTime_25 : decode b_BS_checkTime 25 = .ok (.dup, 1) := by decide +kernel
theorem d_BS_checkTime_26 : decode b_BS_checkTime 26 = .ok (.ldc 148, 2) := by decide +kernel
theorem d_BS_checkTime_28 : decode b_BS_checkTime 28 = .ok (.invokespecial 76, 3) := by decide +kernel
theorem d_BS_checkTime_31 : decode b_BS_checkTime 31 = .ok (.athrow, 1) := by decide +kernel
theorem d_BS_checkTime_32 : decode b_BS_checkTime 32 = .ok (.return_, 1) := by decide +kernel
theorem d_BS_numberAt_0 : decode b_BS_numberAt 0 = .ok (.aload_n 0, 1) := by decide +kernel
theorem d_BS_numberAt_1 : decode b_BS_numberAt 1 = .ok (.getfield 19, 3) := by decide +kernel
theorem d_BS_numberAt_4 : decode b_BS_numberAt 4 = .ok (.getfield 66, 3) := by decide +kernel
theorem d_BS_numberAt_7 : decode b_BS_numberAt 7 = .ok (.iload_n 2, 1) := by decide +kernel
theorem d_BS_numberAt_8 : decode b_BS_numberAt 8 = .ok (.iaload, 1) := by decide +kernel
theorem d_BS_numberAt_9 : decode b_BS_numberAt 9 = .ok (.istore_n 3, 1) := by decide +kernel
theorem d_BS_numberAt_10 : decode b_BS_numberAt 10 = .ok (.aload_n 0, 1) := by decide +kernel
theorem d_BS_numberAt_11 : decode b_BS_numberAt 11 = .ok (.getfield 37, 3) := by decide +kernel
theorem d_BS_numberAt_14 : decode b_BS_numberAt 14 = .ok (.getfield 88, 3) := by decide +kernel
theorem d_BS_numberAt_17 : decode b_BS_numberAt 17 = .ok (.istore 4, 2) := by decide +kernel
theorem d_BS_numberAt_19 : decode b_BS_numberAt 19 = .ok (.iload 4, 2) := by decide +kernel
theorem d_BS_numberAt_21 : decode b_BS_numberAt 21 = .ok (.iload_n 1, 1) := by decide +kernel
theorem d_BS_numberAt_22 : decode b_BS_numberAt 22 = .ok (.if_icmp .le 23, 3) := by decide +kernel
theorem d_BS_numberAt_25 : decode b_BS_numberAt 25 = .ok (.aload_n 0, 1) := by decide +kernel
theorem d_BS_numberAt_26 : decode b_BS_numberAt 26 = .ok (.getfield 37, 3) := by decide +kernel
theorem d_BS_numberAt_29 : decode b_BS_numberAt 29 = .ok (.iload 4, 2) := by decide +kernel
theorem d_BS_numberAt_31 : decode b_BS_numberAt 31 = .ok (.iconst 1, 1) := by decide +kernel
theorem d_BS_numberAt_32 : decode b_BS_numberAt 32 = .ok (.isub, 1) := by decide +kernel
theorem d_BS_numberAt_33 : decode b_BS_numberAt 33 = .ok (.iload_n 2, 1) := by decide +kernel
theorem d_BS_numberAt_34 : decode b_BS_numberAt 34 = .ok (.iload_n 3, 1) := by decide +kernel
theorem d_BS_numberAt_35 : decode b_BS_numberAt 35 = .ok (.invokevirtual 113, 3) := by decide +kernel
theorem d_BS_numberAt_38 : decode b_BS_numberAt 38 = .ok (.istore_n 3, 1) := by decide +kernel
theorem d_BS_numberAt_39 : decode b_BS_numberAt 39 = .ok (.iinc 4 (-1), 3) := by decide +kernel
theorem d_BS_numberAt_42 : decode b_BS_numberAt 42 = .ok (.goto (-23), 3) := by decide +kernel
theorem d_BS_numberAt_45 : decode b_BS_numberAt 45 = .ok (.iload_n 3, 1) := by decide +kernel
theorem d_BS_numberAt_46 : decode b_BS_numberAt 46 = .ok (.ireturn, 1) := by decide +kernel
theorem d_BS_restAt_0 : decode b_BS_restAt 0 = .ok (.iload_n 1, 1) := by decide +kernel
theorem d_BS_restAt_1 : decode b_BS_restAt 1 = .ok (.aload_n 0, 1) := by decide +kernel
theorem d_BS_restAt_2 : decode b_BS_restAt 2 = .ok (.getfield 37, 3) := by decide +kernel
theorem d_BS_restAt_5 : decode b_BS_restAt 5 = .ok (.getfield 88, 3) := by decide +kernel
theorem d_BS_restAt_8 : decode b_BS_restAt 8 = .ok (.if_icmp .ne 14, 3) := by decide +kernel
theorem d_BS_restAt_11 : decode b_BS_restAt 11 = .ok (.aload_n 0, 1) := by decide +kernel
theorem d_BS_restAt_12 : decode b_BS_restAt 12 = .ok (.getfield 19, 3) := by decide +kernel
theorem d_BS_restAt_15 : decode b_BS_restAt 15 = .ok (.iload_n 2, 1) := by decide +kernel
theorem d_BS_restAt_16 : decode b_BS_restAt 16 = .ok (.invokevirtual 150, 3) := by decide +kernel
theorem d_BS_restAt_19 : decode b_BS_restAt 19 = .ok (.goto 12, 3) := by decide +kernel
theorem d_BS_restAt_22 : decode b_BS_restAt 22 = .ok (.aload_n 0, 1) := by decide +kernel
theorem d_BS_restAt_23 : decode b_BS_restAt 23 = .ok (.getfield 37, 3) := by decide +kernel
theorem d_BS_restAt_26 : decode b_BS_restAt 26 = .ok (.iload_n 1, 1) := by decide +kernel
theorem d_BS_restAt_27 : decode b_BS_restAt 27 = .ok (.iload_n 2, 1) := by decide +kernel
theorem d_BS_restAt_28 : decode b_BS_restAt 28 = .ok (.invokevirtual 153, 3) := by decide +kernel
theorem d_BS_restAt_31 : decode b_BS_restAt 31 = .ok (.ireturn, 1) := by decide +kernel
theorem d_BS_sameRestAt_0 : decode b_BS_sameRestAt 0 = .ok (.sipush 264, 3) := by decide +kernel
theorem d_BS_sameRestAt_3 : decode b_BS_sameRestAt 3 = .ok (.istore_n 2, 1) := by decide +kernel
theorem d_BS_sameRestAt_4 : decode b_BS_sameRestAt 4 = .ok (.iload_n 2, 1) := by decide +kernel
theorem d_BS_sameRestAt_5 : decode b_BS_sameRestAt 5 = .ok (.sipush 268, 3) := by decide +kernel
theorem d_BS_sameRestAt_8 : decode b_BS_sameRestAt 8 = .ok (.if_icmp .gt 28, 3) := by decide +kernel
theorem d_BS_sameRestAt_11 : decode b_BS_sameRestAt 11 = .ok (.aload_n 0, 1) := by decide +kernel
theorem d_BS_sameRestAt_12 : decode b_BS_sameRestAt 12 = .ok (.getfield 23, 3) := by decide +kernel
theorem d_BS_sameRestAt_15 : decode b_BS_sameRestAt 15 = .ok (.iload_n 2, 1) := by decide +kernel
theorem d_BS_sameRestAt_16 : decode b_BS_sameRestAt 16 = .ok (.invokevirtual 150, 3) := by decide +kernel
theorem d_BS_sameRestAt_19 : decode b_BS_sameRestAt 19 = .ok (.aload_n 0, 1) := by decide +kernel
theorem d_BS_sameRestAt_20 : decode b_BS_sameRestAt 20 = .ok (.iload_n 1, 1) := by decide +kernel
theorem d_BS_sameRestAt_21 : decode b_BS_sameRestAt 21 = .ok (.iload_n 2, 1) := by decide +kernel
theorem d_BS_sameRestAt_22 : decode b_BS_sameRestAt 22 = .ok (.invokevirtual 103, 3) := by decide +kernel
theorem d_BS_sameRestAt_25 : decode b_BS_sameRestAt 25 = .ok (.if_icmp .eq 5, 3) := by decide +kernel
theorem d_BS_sameRestAt_28 : decode b_BS_sameRestAt 28 = .ok (.iconst 0, 1) := by decide +kernel
theorem d_BS_sameRestAt_29 : decode b_BS_sameRestAt 29 = .ok (.ireturn, 1) := by decide +kernel
theorem d_BS_sameRestAt_30 : decode b_BS_sameRestAt 30 = .ok (.iinc 2 1, 3) := by decide +kernel
theorem d_BS_sameRestAt_33 : decode b_BS_sameRestAt 33 = .ok (.goto (-29), 3) := by decide +kernel
theorem d_BS_sameRestAt_36 : decode b_BS_sameRestAt 36 = .ok (.iconst 1, 1) := by decide +kernel
theorem d_BS_sameRestAt_37 : decode b_BS_sameRestAt 37 = .ok (.ireturn, 1) := by decide +kernel
theorem d_BS_marksKept_0 : decode b_BS_marksKept 0 = .ok (.aload_n 0, 1) := by decide +kernel
theorem d_BS_marksKept_1 : decode b_BS_marksKept 1 = .ok (.getfield 37, 3) := by decide +kernel
theorem d_BS_marksKept_4 : decode b_BS_marksKept 4 = .ok (.getfield 88, 3) := by decide +kernel
theorem d_BS_marksKept_7 : decode b_BS_marksKept 7 = .ok (.aload_n 0, 1) := by decide +kernel
theorem d_BS_marksKept_8 : decode b_BS_marksKept 8 = .ok (.getfield 41, 3) := by decide +kernel
theorem d_BS_marksKept_11 : decode b_BS_marksKept 11 = .ok (.invokestatic 156, 3) := by decide +kernel
theorem d_BS_marksKept_14 : decode b_BS_marksKept 14 = .ok (.aload_n 0, 1) := by decide +kernel
theorem d_BS_marksKept_15 : decode b_BS_marksKept 15 = .ok (.getfield 37, 3) := by decide +kernel
theorem d_BS_marksKept_18 : decode b_BS_marksKept 18 = .ok (.getfield 106, 3) := by decide +kernel
theorem d_BS_marksKept_21 : decode b_BS_marksKept 21 = .ok (.iconst 1, 1) := by decide +kernel
theorem d_BS_marksKept_22 : decode b_BS_marksKept 22 = .ok (.isub, 1) := by decide +kernel
theorem d_BS_marksKept_23 : decode b_BS_marksKept 23 = .ok (.aload_n 0, 1) := by decide +kernel
theorem d_BS_marksKept_24 : decode b_BS_marksKept 24 = .ok (.getfield 41, 3) := by decide +kernel
theorem d_BS_marksKept_27 : decode b_BS_marksKept 27 = .ok (.invokestatic 156, 3) := by decide +kernel
theorem d_BS_marksKept_30 : decode b_BS_marksKept 30 = .ok (.isub, 1) := by decide +kernel
theorem d_BS_marksKept_31 : decode b_BS_marksKept 31 = .ok (.ireturn, 1) := by decide +kernel
theorem d_BS_state_0 : decode b_BS_state 0 = .ok (.aload_n 0, 1) := by decide +kernel
theorem d_BS_state_1 : decode b_BS_state 1 = .ok (.getfield 19, 3) := by decide +kernel
theorem d_BS_state_4 : decode b_BS_state 4 = .ok (.aload_n 0, 1) := by decide +kernel
theorem d_BS_state_5 : decode b_BS_state 5 = .ok (.getfield 9, 3) := by decide +kernel
theorem d_BS_state_8 : decode b_BS_state 8 = .ok (.aload_n 0, 1) := by decide +kernel
theorem d_BS_state_9 : decode b_BS_state 9 = .ok (.getfield 52, 3) := by decide +kernel
theorem d_BS_state_12 : decode b_BS_state 12 = .ok (.invokevirtual 159, 3) := by decide +kernel
theorem d_BS_state_15 : decode b_BS_state 15 = .ok (.ifCond .eq 7, 3) := by decide +kernel
theorem d_BS_state_18 : decode b_BS_state 18 = .ok (.iconst 3, 1) := by decide +kernel
theorem d_BS_state_19 : decode b_BS_state 19 = .ok (.goto 10, 3) := by decide +kernel
theorem d_BS_state_22 : decode b_BS_state 22 = .ok (.aload_n 0, 1) := by decide +kernel
theorem d_BS_state_23 : decode b_BS_state 23 = .ok (.getfield 19, 3) := by decide +kernel
theorem d_BS_state_26 : decode b_BS_state 26 = .ok (.getfield 163, 3) := by decide +kernel
theorem d_BS_state_29 : decode b_BS_state 29 = .ok (.ireturn, 1) := by decide +kernel
theorem d_Ma_init_0 : decode b_Ma_init 0 = .ok (.aload_n 0, 1) := by decide +kernel
theorem d_Ma_init_1 : decode b_Ma_init 1 = .ok (.invokespecial 3, 3) := by decide +kernel
theorem d_Ma_init_4 : decode b_Ma_init 4 = .ok (.aload_n 0, 1) := by decide +kernel
theorem d_Ma_init_5 : decode b_Ma_init 5 = .ok (.sipush 264, 3) := by decide +kernel
theorem d_Ma_init_8 : decode b_Ma_init 8 = .ok (.newarray .int, 2) := by decide +kernel
theorem d_Ma_init_10 : decode b_Ma_init 10 = .ok (.putfield 9, 3) := by decide +kernel
theorem d_Ma_init_13 : decode b_Ma_init 13 = .ok (.aload_n 0, 1) := by decide +kernel
theorem d_Ma_init_14 : decode b_Ma_init 14 = .ok (.iconst 0, 1) := by decide +kernel
theorem d_Ma_init_15 : decode b_Ma_init 15 = .ok (.putfield 15, 3) := by decide +kernel
theorem d_Ma_init_18 : decode b_Ma_init 18 = .ok (.aload_n 0, 1) := by decide +kernel
theorem d_Ma_init_19 : decode b_Ma_init 19 = .ok (.iconst (-1), 1) := by decide +kernel
theorem d_Ma_init_20 : decode b_Ma_init 20 = .ok (.putfield 19, 3) := by decide +kernel
theorem d_Ma_init_23 : decode b_Ma_init 23 = .ok (.return_, 1) := by decide +kernel
theorem d_Ma_copyFrom_0 : decode b_Ma_copyFrom 0 = .ok (.aload_n 1, 1) := by decide +kernel
theorem d_Ma_copyFrom_1 : decode b_Ma_copyFrom 1 = .ok (.getfield 9, 3) := by decide +kernel
theorem d_Ma_copyFrom_4 : decode b_Ma_copyFrom 4 = .ok (.iconst 0, 1) := by decide +kernel
theorem d_Ma_copyFrom_5 : decode b_Ma_copyFrom 5 = .ok (.aload_n 0, 1) := by decide +kernel
theorem d_Ma_copyFrom_6 : decode b_Ma_copyFrom 6 = .ok (.getfield 9, 3) := by decide +kernel
theorem d_Ma_copyFrom_9 : decode b_Ma_copyFrom 9 = .ok (.iconst 0, 1) := by decide +kernel
theorem d_Ma_copyFrom_10 : decode b_Ma_copyFrom 10 = .ok (.sipush 264, 3) := by decide +kernel
theorem d_Ma_copyFrom_13 : decode b_Ma_copyFrom 13 = .ok (.invokestatic 22, 3) := by decide +kernel
theorem d_Ma_copyFrom_16 : decode b_Ma_copyFrom 16 = .ok (.aload_n 0, 1) := by decide +kernel
theorem d_Ma_copyFrom_17 : decode b_Ma_copyFrom 17 = .ok (.aload_n 1, 1) := by decide +kernel
theorem d_Ma_copyFrom_18 : decode b_Ma_copyFrom 18 = .ok (.getfield 28, 3) := by decide +kernel
theorem d_Ma_copyFrom_21 : decode b_Ma_copyFrom 21 = .ok (.putfield 28, 3) := by decide +kernel
theorem d_Ma_copyFrom_24 : decode b_Ma_copyFrom 24 = .ok (.aload_n 0, 1) := by decide +kernel
theorem d_Ma_copyFrom_25 : decode b_Ma_copyFrom 25 = .ok (.aload_n 1, 1) := by decide +kernel
theorem d_Ma_copyFrom_26 : decode b_Ma_copyFrom 26 = .ok (.getfield 31, 3) := by decide +kernel
theorem d_Ma_copyFrom_29 : decode b_Ma_copyFrom 29 = .ok (.putfield 31, 3) := by decide +kernel
theorem d_Ma_copyFrom_32 : decode b_Ma_copyFrom 32 = .ok (.aload_n 0, 1) := by decide +kernel
theorem d_Ma_copyFrom_33 : decode b_Ma_copyFrom 33 = .ok (.aload_n 1, 1) := by decide +kernel
theorem d_Ma_copyFrom_34 : decode b_Ma_copyFrom 34 = .ok (.getfield 34, 3) := by decide +kernel
theorem d_Ma_copyFrom_37 : decode b_Ma_copyFrom 37 = .ok (.putfield 34, 3) := by decide +kernel
theorem d_Ma_copyFrom_40 : decode b_Ma_copyFrom 40 = .ok (.aload_n 0, 1) := by decide +kernel
theorem d_Ma_copyFrom_41 : decode b_Ma_copyFrom 41 = .ok (.aload_n 1, 1) := by decide +kernel
theorem d_Ma_copyFrom_42 : decode b_Ma_copyFrom 42 = .ok (.getfield 37, 3) := by decide +kernel
theorem d_Ma_copyFrom_45 : decode b_Ma_copyFrom 45 = .ok (.putfield 37, 3) := by decide +kernel
theorem d_Ma_copyFrom_48 : decode b_Ma_copyFrom 48 = .ok (.aload_n 0, 1) := by decide +kernel
theorem d_Ma_copyFrom_49 : decode b_Ma_copyFrom 49 = .ok (.aload_n 1, 1) := by decide +kernel
theorem d_Ma_copyFrom_50 : decode b_Ma_copyFrom 50 = .ok (.getfield 15, 3) := by decide +kernel
theorem d_Ma_copyFrom_53 : decode b_Ma_copyFrom 53 = .ok (.putfield 15, 3) := by decide +kernel
theorem d_Ma_copyFrom_56 : decode b_Ma_copyFrom 56 = .ok (.return_, 1) := by decide +kernel
theorem d_Ma_rest_0 : decode b_Ma_rest 0 = .ok (.iload_n 1, 1) := by decide +kernel
theorem d_Ma_rest_1 : decode b_Ma_rest 1 = .ok (.tableswitch 51 264 267 #[31, 36, 41, 46], 31) := by decide +kernel
theorem d_Ma_rest_32 : decode b_Ma_rest 32 = .ok (.aload_n 0, 1) := by decide +kernel
theorem d_Ma_rest_33 : decode b_Ma_rest 33 = .ok (.getfield 28, 3) := by decide +kernel
theorem d_Ma_rest_36 : decode b_Ma_rest 36 = .ok (.ireturn, 1) := by decide +kernel
theorem d_Ma_rest_37 : decode b_Ma_rest 37 = .ok (.aload_n 0, 1) := by decide +kernel
theorem d_Ma_rest_38 : decode b_Ma_rest 38 = .ok (.getfield 31, 3) := by decide +kernel
theorem d_Ma_rest_41 : decode b_Ma_rest 41 = .ok (.ireturn, 1) := by decide +kernel
theorem d_Ma_rest_42 : decode b_Ma_rest 42 = .ok (.aload_n 0, 1) := by decide +kernel
theorem d_Ma_rest_43 : decode b_Ma_rest 43 = .ok (.getfield 34, 3) := by decide +kernel
theorem d_Ma_rest_46 : decode b_Ma_rest 46 = .ok (.ireturn, 1) := by decide +kernel
theorem d_Ma_rest_47 : decode b_Ma_rest 47 = .ok (.aload_n 0, 1) := by decide +kernel
theorem d_Ma_rest_48 : decode b_Ma_rest 48 = .ok (.getfield 37, 3) := by decide +kernel
theorem d_Ma_rest_51 : decode b_Ma_rest 51 = .ok (.ireturn, 1) := by decide +kernel
theorem d_Ma_rest_52 : decode b_Ma_rest 52 = .ok (.aload_n 0, 1) := by decide +kernel
theorem d_Ma_rest_53 : decode b_Ma_rest 53 = .ok (.getfield 15, 3) := by decide +kernel
theorem d_Ma_rest_56 : decode b_Ma_rest 56 = .ok (.ireturn, 1) := by decide +kernel
theorem d_Ma_wouldWait_0 : decode b_Ma_wouldWait 0 = .ok (.aload_n 0, 1) := by decide +kernel
theorem d_Ma_wouldWait_1 : decode b_Ma_wouldWait 1 = .ok (.getfield 15, 3) := by decide +kernel
theorem d_Ma_wouldWait_4 : decode b_Ma_wouldWait 4 = .ok (.ifCond .ne 29, 3) := by decide +kernel
theorem d_Ma_wouldWait_7 : decode b_Ma_wouldWait 7 = .ok (.aload_n 1, 1) := by decide +kernel
theorem d_Ma_wouldWait_8 : decode b_Ma_wouldWait 8 = .ok (.aload_n 0, 1) := by decide +kernel
theorem d_Ma_wouldWait_9 : decode b_Ma_wouldWait 9 = .ok (.getfield 28, 3) := by decide +kernel
theorem d_Ma_wouldWait_12 : decode b_Ma_wouldWait 12 = .ok (.iaload, 1) := by decide +kernel
theorem d_Ma_wouldWait_13 : decode b_Ma_wouldWait 13 = .ok (.bipush 28, 2) := by decide +kernel
theorem d_Ma_wouldWait_15 : decode b_Ma_wouldWait 15 = .ok (.iushr, 1) := by decide +kernel
theorem d_Ma_wouldWait_16 : decode b_Ma_wouldWait 16 = .ok (.bipush 8, 2) := by decide +kernel
theorem d_Ma_wouldWait_18 : decode b_Ma_wouldWait 18 = .ok (.if_icmp .ne 15, 3) := by decide +kernel
theorem d_Ma_wouldWait_21 : decode b_Ma_wouldWait 21 = .ok (.aload_n 0, 1) := by decide +kernel
theorem d_Ma_wouldWait_22 : decode b_Ma_wouldWait 22 = .ok (.getfield 31, 3) := by decide +kernel
theorem d_Ma_wouldWait_25 : decode b_Ma_wouldWait 25 = .ok (.iload_n 2, 1) := by decide +kernel
theorem d_Ma_wouldWait_26 : decode b_Ma_wouldWait 26 = .ok (.if_icmp .lt 7, 3) := by decide +kernel
theorem d_Ma_wouldWait_29 : decode b_Ma_wouldWait 29 = .ok (.iconst 1, 1) := by decide +kernel
theorem d_Ma_wouldWait_30 : decode b_Ma_wouldWait 30 = .ok (.goto 4, 3) := by decide +kernel
theorem d_Ma_wouldWait_33 : decode b_Ma_wouldWait 33 = .ok (.iconst 0, 1) := by decide +kernel
theorem d_Ma_wouldWait_34 : decode b_Ma_wouldWait 34 = .ok (.ireturn, 1) := by decide +kernel
theorem d_Ma_advance_0 : decode b_Ma_advance 0 = .ok (.aload_n 0, 1) := by decide +kernel
theorem d_Ma_advance_1 : decode b_Ma_advance 1 = .ok (.getfield 15, 3) := by decide +kernel
theorem d_Ma_advance_4 : decode b_Ma_advance 4 = .ok (.ifCond .ne 12, 3) := by decide +kernel
theorem d_Ma_advance_7 : decode b_Ma_advance 7 = .ok (.aload_n 0, 1) := by decide +kernel
theorem d_Ma_advance_8 : decode b_Ma_advance 8 = .ok (.aload_n 1, 1) := by decide +kernel
theorem d_Ma_advance_9 : decode b_Ma_advance 9 = .ok (.iload_n 3, 1) := by decide +kernel
theorem d_Ma_advance_10 : decode b_Ma_advance 10 = .ok (.invokevirtual 40, 3) := by decide +kernel
theorem d_Ma_advance_13 : decode b_Ma_advance 13 = .ok (.ifCond .eq 5, 3) := by decide +kernel
theorem d_Ma_advance_16 : decode b_Ma_advance 16 = .ok (.iconst 0, 1) := by decide +kernel
theorem d_Ma_advance_17 : decode b_Ma_advance 17 = .ok (.ireturn, 1) := by decide +kernel
theorem d_Ma_advance_18 : decode b_Ma_advance 18 = .ok (.aload_n 1, 1) := by decide +kernel
theorem d_Ma_advance_19 : decode b_Ma_advance 19 = .ok (.aload_n 0, 1) := by decide +kernel
theorem d_Ma_advance_20 : decode b_Ma_advance 20 = .ok (.getfield 28, 3) := by decide +kernel
theorem d_Ma_advance_23 : decode b_Ma_advance 23 = .ok (.iaload, 1) := by decide +kernel
theorem d_Ma_advance_24 : decode b_Ma_advance 24 = .ok (.istore 4, 2) := by decide +kernel
theorem d_Ma_advance_26 : decode b_Ma_advance 26 = .ok (.aload_n 0, 1) := by decide +kernel
theorem d_Ma_advance_27 : decode b_Ma_advance 27 = .ok (.invokevirtual 44, 3) := by decide +kernel
theorem d_Ma_advance_30 : decode b_Ma_advance 30 = .ok (.aload_n 0, 1) := by decide +kernel
theorem d_Ma_advance_31 : decode b_Ma_advance 31 = .ok (.aload_n 0, 1) := by decide +kernel
theorem d_Ma_advance_32 : decode b_Ma_advance 32 = .ok (.getfield 28, 3) := by decide +kernel
theorem d_Ma_advance_35 : decode b_Ma_advance 35 = .ok (.iconst 1, 1) := by decide +kernel
theorem d_Ma_advance_36 : decode b_Ma_advance 36 = .ok (.iadd, 1) := by decide +kernel
theorem d_Ma_advance_37 : decode b_Ma_advance 37 = .ok (.bipush 63, 2) := by decide +kernel
theorem d_Ma_advance_39 : decode b_Ma_advance 39 = .ok (.iand, 1) := by decide +kernel
theorem d_Ma_advance_40 : decode b_Ma_advance 40 = .ok (.putfield 28, 3) := by decide +kernel
theorem d_Ma_advance_43 : decode b_Ma_advance 43 = .ok (.iload 4, 2) := by decide +kernel
theorem d_Ma_advance_45 : decode b_Ma_advance 45 = .ok (.bipush 28, 2) := by decide +kernel
theorem d_Ma_advance_47 : decode b_Ma_advance 47 = .ok (.iushr, 1) := by decide +kernel
theorem d_Ma_advance_48 : decode b_Ma_advance 48 = .ok (.istore 5, 2) := by decide +kernel
theorem d_Ma_advance_50 : decode b_Ma_advance 50 = .ok (.iload 5, 2) := by decide +kernel
theorem d_Ma_advance_52 : decode b_Ma_advance 52 = .ok (.bipush 8, 2) := by decide +kernel
theorem d_Ma_advance_54 : decode b_Ma_advance 54 = .ok (.if_icmp .ne 33, 3) := by decide +kernel
theorem d_Ma_advance_57 : decode b_Ma_advance 57 = .ok (.aload_n 0, 1) := by decide +kernel
theorem d_Ma_advance_58 : decode b_Ma_advance 58 = .ok (.iload 4, 2) := by decide +kernel
theorem d_Ma_advance_60 : decode b_Ma_advance 60 = .ok (.bipush 24, 2) := by decide +kernel
theorem d_Ma_advance_62 : decode b_Ma_advance 62 = .ok (.invokestatic 47, 3) := by decide +kernel
theorem d_Ma_advance_65 : decode b_Ma_advance 65 = .ok (.aload_n 2, 1) := by decide +kernel
theorem d_Ma_advance_66 : decode b_Ma_advance 66 = .ok (.aload_n 0, 1) := by decide +kernel
theorem d_Ma_advance_67 : decode b_Ma_advance 67 = .ok (.getfield 31, 3) := by decide +kernel
theorem d_Ma_advance_70 : decode b_Ma_advance 70 = .ok (.iaload, 1) := by decide +kernel
theorem d_Ma_advance_71 : decode b_Ma_advance 71 = .ok (.invokevirtual 51, 3) := by decide +kernel
theorem d_Ma_advance_74 : decode b_Ma_advance 74 = .ok (.aload_n 0, 1) := by decide +kernel
theorem d_Ma_advance_75 : decode b_Ma_advance 75 = .ok (.dup, 1) := by decide +kernel
theorem d_Ma_advance_76 : decode b_Ma_advance 76 = .ok (.getfield 31, 3) := by decide +kernel
theorem d_Ma_advance_79 : decode b_Ma_advance 79 = .ok (.iconst 1, 1) := by decide +kernel
theorem d_Ma_advance_80 : decode b_Ma_advance 80 = .ok (.iadd, 1) := by decide +kernel
theorem d_Ma_advance_81 : decode b_Ma_advance 81 = .ok (.putfield 31, 3) := by decide +kernel
theorem d_Ma_advance_84 : decode b_Ma_advance 84 = .ok (.goto 35, 3) := by decide +kernel
theorem d_Ma_advance_87 : decode b_Ma_advance 87 = .ok (.iload 5, 2) := by decide +kernel
theorem d_Ma_advance_89 : decode b_Ma_advance 89 = .ok (.iconst 5, 1) := by decide +kernel
theorem d_Ma_advance_90 : decode b_Ma_advance 90 = .ok (.if_icmp .lt 21, 3) := by decide +kernel
theorem d_Ma_advance_93 : decode b_Ma_advance 93 = .ok (.iload 5, 2) := by decide +kernel
theorem d_Ma_advance_95 : decode b_Ma_advance 95 = .ok (.bipush 9, 2) := by decide +kernel
theorem d_Ma_advance_97 : decode b_Ma_advance 97 = .ok (.if_icmp .gt 14, 3) := by decide +kernel
theorem d_Ma_advance_100 : decode b_Ma_advance 100 = .ok (.aload_n 0, 1) := by decide +kernel
theorem d_Ma_advance_101 : decode b_Ma_advance 101 = .ok (.iload 5, 2) := by decide +kernel
theorem d_Ma_advance_103 : decode b_Ma_advance 103 = .ok (.iload 4, 2) := by decide +kernel
theorem d_Ma_advance_105 : decode b_Ma_advance 105 = .ok (.invokevirtual 55, 3) := by decide +kernel
theorem d_Ma_advance_108 : decode b_Ma_advance 108 = .ok (.goto 11, 3) := by decide +kernel
theorem d_Ma_advance_111 : decode b_Ma_advance 111 = .ok (.aload_n 0, 1) := by decide +kernel
theorem d_Ma_advance_112 : decode b_Ma_advance 112 = .ok (.iload 5, 2) := by decide +kernel
theorem d_Ma_advance_114 : decode b_Ma_advance 114 = .ok (.iload 4, 2) := by decide +kernel
theorem d_Ma_advance_116 : decode b_Ma_advance 116 = .ok (.invokevirtual 58, 3) := by decide +kernel
theorem d_Ma_advance_119 : decode b_Ma_advance 119 = .ok (.iconst 1, 1) := by decide +kernel
theorem d_Ma_advance_120 : decode b_Ma_advance 120 = .ok (.ireturn, 1) := by decide +kernel
theorem d_Ma_rememberBefore_0 : decode b_Ma_rememberBefore 0 = .ok (.aload_n 0, 1) := by decide +kernel
theorem d_Ma_rememberBefore_1 : decode b_Ma_rememberBefore 1 = .ok (.iconst (-1), 1) := by decide +kernel
theorem d_Ma_rememberBefore_2 : decode b_Ma_rememberBefore 2 = .ok (.putfield 19, 3) := by decide +kernel
theorem d_Ma_rememberBefore_5 : decode b_Ma_rememberBefore 5 = .ok (.aload_n 0, 1) := by decide +kernel
theorem d_Ma_rememberBefore_6 : decode b_Ma_rememberBefore 6 = .ok (.aload_n 0, 1) := by decide +kernel
theorem d_Ma_rememberBefore_7 : decode b_Ma_rememberBefore 7 = .ok (.getfield 28, 3) := by decide +kernel
theorem d_Ma_rememberBefore_10 : decode b_Ma_rememberBefore 10 = .ok (.putfield 61, 3) := by decide +kernel
theorem d_Ma_rememberBefore_13 : decode b_Ma_rememberBefore 13 = .ok (.aload_n 0, 1) := by decide +kernel
theorem d_Ma_rememberBefore_14 : decode b_Ma_rememberBefore 14 = .ok (.aload_n 0, 1) := by decide +kernel
theorem d_Ma_rememberBefore_15 : decode b_Ma_rememberBefore 15 = .ok (.getfield 31, 3) := by decide +kernel
theorem d_Ma_rememberBefore_18 : decode b_Ma_rememberBefore 18 = .ok (.putfield 64, 3) := by decide +kernel
theorem d_Ma_rememberBefore_21 : decode b_Ma_rememberBefore 21 = .ok (.aload_n 0, 1) := by decide +kernel
theorem d_Ma_rememberBefore_22 : decode b_Ma_rememberBefore 22 = .ok (.aload_n 0, 1) := by decide +kernel
theorem d_Ma_rememberBefore_23 : decode b_Ma_rememberBefore 23 = .ok (.getfield 34, 3) := by decide +kernel
theorem d_Ma_rememberBefore_26 : decode b_Ma_rememberBefore 26 = .ok (.putfield 67, 3) := by decide +kernel
theorem d_Ma_rememberBefore_29 : decode b_Ma_rememberBefore 29 = .ok (.aload_n 0, 1) := by decide +kernel
theorem d_Ma_rememberBefore_30 : decode b_Ma_rememberBefore 30 = .ok (.aload_n 0, 1) := by decide +kernel
theorem d_Ma_rememberBefore_31 : decode b_Ma_rememberBefore 31 = .ok (.getfield 37, 3) := by decide +kernel
theorem d_Ma_rememberBefore_34 : decode b_Ma_rememberBefore 34 = .ok (.putfield 70, 3) := by decide +kernel
theorem d_Ma_rememberBefore_37 : decode b_Ma_rememberBefore 37 = .ok (.return_, 1) := by decide +kernel
theorem d_Ma_moveNumbers_0 : decode b_Ma_moveNumbers 0 = .ok (.iload_n 2, 1) := by decide +kernel
theorem d_Ma_moveNumbers_1 : decode b_Ma_moveNumbers 1 = .ok (.bipush 24, 2) := by decide +kernel
theorem d_Ma_moveNumbers_3 : decode b_Ma_moveNumbers 3 = .ok (.invokestatic 47, 3) := by decide +kernel
theorem d_Ma_moveNumbers_6 : decode b_Ma_moveNumbers 6 = .ok (.istore_n 3, 1) := by decide +kernel
theorem d_Ma_moveNumbers_7 : decode b_Ma_moveNumbers 7 = .ok (.iload_n 2, 1) := by decide +kernel
theorem d_Ma_moveNumbers_8 : decode b_Ma_moveNumbers 8 = .ok (.i2s, 1) := by decide +kernel
theorem d_Ma_moveNumbers_9 : decode b_Ma_moveNumbers 9 = .ok (.istore 4, 2) := by decide +kernel
theorem d_Ma_moveNumbers_11 : decode b_Ma_moveNumbers 11 = .ok (.bipush 8, 2) := by decide +kernel
theorem d_Ma_moveNumbers_13 : decode b_Ma_moveNumbers 13 = .ok (.aload_n 0, 1) := by decide +kernel
theorem d_Ma_moveNumbers_14 : decode b_Ma_moveNumbers 14 = .ok (.getfield 9, 3) := by decide +kernel
theorem d_Ma_moveNumbers_17 : decode b_Ma_moveNumbers 17 = .ok (.iload_n 2, 1) := by decide +kernel
theorem d_Ma_moveNumbers_18 : decode b_Ma_moveNumbers 18 = .ok (.bipush 20, 2) := by decide +kernel
theorem d_Ma_moveNumbers_20 : decode b_Ma_moveNumbers 20 = .ok (.invokestatic 47, 3) := by decide +kernel
theorem d_Ma_moveNumbers_23 : decode b_Ma_moveNumbers 23 = .ok (.iaload, 1) := by decide +kernel
theorem d_Ma_moveNumbers_24 : decode b_Ma_moveNumbers 24 = .ok (.iload 4, 2) := by decide +kernel
theorem d_Ma_moveNumbers_26 : decode b_Ma_moveNumbers 26 = .ok (.iadd, 1) := by decide +kernel
theorem d_Ma_moveNumbers_27 : decode b_Ma_moveNumbers 27 = .ok (.sipush 255, 3) := by decide +kernel
theorem d_Ma_moveNumbers_30 : decode b_Ma_moveNumbers 30 = .ok (.iand, 1) := by decide +kernel
theorem d_Ma_moveNumbers_31 : decode b_Ma_moveNumbers 31 = .ok (.iadd, 1) := by decide +kernel
theorem d_Ma_moveNumbers_32 : decode b_Ma_moveNumbers 32 = .ok (.istore 5, 2) := by decide +kernel
theorem d_Ma_moveNumbers_34 : decode b_Ma_moveNumbers 34 = .ok (.iload_n 1, 1) := by decide +kernel
theorem d_Ma_moveNumbers_35 : decode b_Ma_moveNumbers 35 = .ok (.tableswitch 81 5 7 #[25, 40, 55], 25) := by decide +kernel
theorem d_Ma_moveNumbers_60 : decode b_Ma_moveNumbers 60 = .ok (.aload_n 0, 1) := by decide +kernel
theorem d_Ma_moveNumbers_61 : decode b_Ma_moveNumbers 61 = .ok (.iload_n 3, 1) := by decide +kernel
theorem d_Ma_moveNumbers_62 : decode b_Ma_moveNumbers 62 = .ok (.aload_n 0, 1) := by decide +kernel
theorem d_Ma_moveNumbers_63 : decode b_Ma_moveNumbers 63 = .ok (.getfield 9, 3) := by decide +kernel
theorem d_Ma_moveNumbers_66 : decode b_Ma_moveNumbers 66 = .ok (.iload 5, 2) := by decide +kernel
theorem d_Ma_moveNumbers_68 : decode b_Ma_moveNumbers 68 = .ok (.iaload, 1) := by decide +kernel
theorem d_Ma_moveNumbers_69 : decode b_Ma_moveNumbers 69 = .ok (.invokevirtual 51, 3) := by decide +kernel
theorem d_Ma_moveNumbers_72 : decode b_Ma_moveNumbers 72 = .ok (.goto 72, 3) := by decide +kernel
theorem d_Ma_moveNumbers_75 : decode b_Ma_moveNumbers 75 = .ok (.aload_n 0, 1) := by decide +kernel
theorem d_Ma_moveNumbers_76 : decode b_Ma_moveNumbers 76 = .ok (.iload 5, 2) := by decide +kernel
theorem d_Ma_moveNumbers_78 : decode b_Ma_moveNumbers 78 = .ok (.aload_n 0, 1) := by decide +kernel
theorem d_Ma_moveNumbers_79 : decode b_Ma_moveNumbers 79 = .ok (.getfield 9, 3) := by decide +kernel
theorem d_Ma_moveNumbers_82 : decode b_Ma_moveNumbers 82 = .ok (.iload_n 3, 1) := by decide +kernel
theorem d_Ma_moveNumbers_83 : decode b_Ma_moveNumbers 83 = .ok (.iaload, 1) := by decide +kernel
theorem d_Ma_moveNumbers_84 : decode b_Ma_moveNumbers 84 = .ok (.invokevirtual 51, 3) := by decide +kernel
theorem d_Ma_moveNumbers_87 : decode b_Ma_moveNumbers 87 = .ok (.goto 57, 3) := by decide +kernel
theorem d_Ma_moveNumbers_90 : decode b_Ma_moveNumbers 90 = .ok (.aload_n 0, 1) := by decide +kernel
theorem d_Ma_moveNumbers_91 : decode b_Ma_moveNumbers 91 = .ok (.getfield 9, 3) := by decide +kernel
theorem d_Ma_moveNumbers_94 : decode b_Ma_moveNumbers 94 = .ok (.iload_n 3, 1) := by decide +kernel
theorem d_Ma_moveNumbers_95 : decode b_Ma_moveNumbers 95 = .ok (.iaload, 1) := by decide +kernel
theorem d_Ma_moveNumbers_96 : decode b_Ma_moveNumbers 96 = .ok (.ifCond .eq 48, 3) := by decide +kernel
theorem d_Ma_moveNumbers_99 : decode b_Ma_moveNumbers 99 = .ok (.aload_n 0, 1) := by decide +kernel
theorem d_Ma_moveNumbers_100 : decode b_Ma_moveNumbers 100 = .ok (.aload_n 0, 1) := by decide +kernel
theorem d_Ma_moveNumbers_101 : decode b_Ma_moveNumbers 101 = .ok (.getfield 61, 3) := by decide +kernel
theorem d_Ma_moveNumbers_104 : decode b_Ma_moveNumbers 104 = .ok (.iload 4, 2) := by decide +kernel
theorem d_Ma_moveNumbers_106 : decode b_Ma_moveNumbers 106 = .ok (.iadd, 1) := by decide +kernel
theorem d_Ma_moveNumbers_107 : decode b_Ma_moveNumbers 107 = .ok (.bipush 63, 2) := by decide +kernel
theorem d_Ma_moveNumbers_109 : decode b_Ma_moveNumbers 109 = .ok (.iand, 1) := by decide +kernel
theorem d_Ma_moveNumbers_110 : decode b_Ma_moveNumbers 110 = .ok (.putfield 28, 3) := by decide +kernel
theorem d_Ma_moveNumbers_113 : decode b_Ma_moveNumbers 113 = .ok (.goto 31, 3) := by decide +kernel
theorem d_Ma_moveNumbers_116 : decode b_Ma_moveNumbers 116 = .ok (.aload_n 0, 1) := by decide +kernel
theorem d_Ma_moveNumbers_117 : decode b_Ma_moveNumbers 117 = .ok (.dup, 1) := by decide +kernel
theorem d_Ma_moveNumbers_118 : decode b_Ma_moveNumbers 118 = .ok (.getfield 34, 3) := by decide +kernel
theorem d_Ma_moveNumbers_121 : decode b_Ma_moveNumbers 121 = .ok (.iconst 1, 1) := by decide +kernel
theorem d_Ma_moveNumbers_122 : decode b_Ma_moveNumbers 122 = .ok (.iadd, 1) := by decide +kernel
theorem d_Ma_moveNumbers_123 : decode b_Ma_moveNumbers 123 = .ok (.putfield 34, 3) := by decide +kernel
theorem d_Ma_moveNumbers_126 : decode b_Ma_moveNumbers 126 = .ok (.aload_n 0, 1) := by decide +kernel
theorem d_Ma_moveNumbers_127 : decode b_Ma_moveNumbers 127 = .ok (.bipush 31, 2) := by decide +kernel
theorem d_Ma_moveNumbers_129 : decode b_Ma_moveNumbers 129 = .ok (.aload_n 0, 1) := by decide +kernel
theorem d_Ma_moveNumbers_130 : decode b_Ma_moveNumbers 130 = .ok (.getfield 37, 3) := by decide +kernel
theorem d_Ma_moveNumbers_133 : decode b_Ma_moveNumbers 133 = .ok (.imul, 1) := by decide +kernel
theorem d_Ma_moveNumbers_134 : decode b_Ma_moveNumbers 134 = .ok (.aload_n 0, 1) := by decide +kernel
theorem d_Ma_moveNumbers_135 : decode b_Ma_moveNumbers 135 = .ok (.getfield 9, 3) := by decide +kernel
theorem d_Ma_moveNumbers_138 : decode b_Ma_moveNumbers 138 = .ok (.iload_n 3, 1) := by decide +kernel
theorem d_Ma_moveNumbers_139 : decode b_Ma_moveNumbers 139 = .ok (.iaload, 1) := by decide +kernel
theorem d_Ma_moveNumbers_140 : decode b_Ma_moveNumbers 140 = .ok (.iadd, 1) := by decide +kernel
theorem d_Ma_moveNumbers_141 : decode b_Ma_moveNumbers 141 = .ok (.putfield 37, 3) := by decide +kernel
theorem d_Ma_moveNumbers_144 : decode b_Ma_moveNumbers 144 = .ok (.return_, 1) := by decide +kernel
theorem d_Ma_compute_0 : decode b_Ma_compute 0 = .ok (.iload_n 2, 1) := by decide +kernel
theorem d_Ma_compute_1 : decode b_Ma_compute 1 = .ok (.bipush 24, 2) := by decide +kernel
theorem d_Ma_compute_3 : decode b_Ma_compute 3 = .ok (.invokestatic 47, 3) := by decide +kernel
theorem d_Ma_compute_6 : decode b_Ma_compute 6 = .ok (.istore_n 3, 1) := by decide +kernel
theorem d_Ma_compute_7 : decode b_Ma_compute 7 = .ok (.aload_n 0, 1) := by decide +kernel
theorem d_Ma_compute_8 : decode b_Ma_compute 8 = .ok (.getfield 9, 3) := by decide +kernel
theorem d_Ma_compute_11 : decode b_Ma_compute 11 = .ok (.iload_n 2, 1) := by decide +kernel
theorem d_Ma_compute_12 : decode b_Ma_compute 12 = .ok (.bipush 20, 2) := by decide +kernel
theorem d_Ma_compute_14 : decode b_Ma_compute 14 = .ok (.invokestatic 47, 3) := by decide +kernel
theorem d_Ma_compute_17 : decode b_Ma_compute 17 = .ok (.iaload, 1) := by decide +kernel
theorem d_Ma_compute_18 : decode b_Ma_compute 18 = .ok (.istore 4, 2) := by decide +kernel
theorem d_Ma_compute_20 : decode b_Ma_compute 20 = .ok (.aload_n 0, 1) := by decide +kernel
theorem d_Ma_compute_21 : decode b_Ma_compute 21 = .ok (.getfield 9, 3) := by decide +kernel
theorem d_Ma_compute_24 : decode b_Ma_compute 24 = .ok (.iload_n 2, 1) := by decide +kernel
theorem d_Ma_compute_25 : decode b_Ma_compute 25 = .ok (.bipush 16, 2) := by decide +kernel
theorem d_Ma_compute_27 : decode b_Ma_compute 27 = .ok (.invokestatic 47, 3) := by decide +kernel
theorem d_Ma_compute_30 : decode b_Ma_compute 30 = .ok (.iaload, 1) := by decide +kernel
theorem d_Ma_compute_31 : decode b_Ma_compute 31 = .ok (.istore 5, 2) := by decide +kernel
theorem d_Ma_compute_33 : decode b_Ma_compute 33 = .ok (.iload_n 1, 1) := by decide +kernel
theorem d_Ma_compute_34 : decode b_Ma_compute 34 = .ok (.tableswitch 172 0 12 #[66, 74, 84, 97, 110, 172, 172, 172, 172, 172, 123, 139, 152], 66) := by decide +kernel
theorem d_Ma_compute_100 : decode b_Ma_compute 100 = .ok (.aload_n 0, 1) := by decide +kernel
theorem d_Ma_compute_101 : decode b_Ma_compute 101 = .ok (.iconst 1, 1) := by decide +kernel
theorem d_Ma_compute_102 : decode b_Ma_compute 102 = .ok (.invokevirtual 73, 3) := by decide +kernel
theorem d_Ma_compute_105 : decode b_Ma_compute 105 = .ok (.goto 106, 3) := by decide +kernel
theorem d_Ma_compute_108 : decode b_Ma_compute 108 = .ok (.aload_n 0, 1) := by decide +kernel
theorem d_Ma_compute_109 : decode b_Ma_compute 109 = .ok (.iload_n 3, 1) := by decide +kernel
theorem d_Ma_compute_110 : decode b_Ma_compute 110 = .ok (.iload_n 2, 1) := by decide +kernel
theorem d_Ma_compute_111 : decode b_Ma_compute 111 = .ok (.i2s, 1) := by decide +kernel
theorem d_Ma_compute_112 : decode b_Ma_compute 112 = .ok (.invokevirtual 51, 3) := by decide +kernel
theorem d_Ma_compute_115 : decode b_Ma_compute 115 = .ok (.goto 96, 3) := by decide +kernel
theorem d_Ma_compute_118 : decode b_Ma_compute 118 = .ok (.aload_n 0, 1) := by decide +kernel
theorem d_Ma_compute_119 : decode b_Ma_compute 119 = .ok (.iload_n 3, 1) := by decide +kernel
theorem d_Ma_compute_120 : decode b_Ma_compute 120 = .ok (.iload 4, 2) := by decide +kernel
theorem d_Ma_compute_122 : decode b_Ma_compute 122 = .ok (.iload 5, 2) := by decide +kernel
theorem d_Ma_compute_124 : decode b_Ma_compute 124 = .ok (.iadd, 1) := by decide +kernel
theorem d_Ma_compute_125 : decode b_Ma_compute 125 = .ok (.invokevirtual 51, 3) := by decide +kernel
theorem d_Ma_compute_128 : decode b_Ma_compute 128 = .ok (.goto 83, 3) := by decide +kernel
theorem d_Ma_compute_131 : decode b_Ma_compute 131 = .ok (.aload_n 0, 1) := by decide +kernel
theorem d_Ma_compute_132 : decode b_Ma_compute 132 = .ok (.iload_n 3, 1) := by decide +kernel
theorem d_Ma_compute_133 : decode b_Ma_compute 133 = .ok (.iload 4, 2) := by decide +kernel
theorem d_Ma_compute_135 : decode b_Ma_compute 135 = .ok (.iload 5, 2) := by decide +kernel
theorem d_Ma_compute_137 : decode b_Ma_compute 137 = .ok (.isub, 1) := by decide +kernel
theorem d_Ma_compute_138 : decode b_Ma_compute 138 = .ok (.invokevirtual 51, 3) := by decide +kernel
theorem d_Ma_compute_141 : decode b_Ma_compute 141 = .ok (.goto 70, 3) := by decide +kernel
theorem d_Ma_compute_144 : decode b_Ma_compute 144 = .ok (.aload_n 0, 1) := by decide +kernel
theorem d_Ma_compute_145 : decode b_Ma_compute 145 = .ok (.iload_n 3, 1) := by decide +kernel
theorem d_Ma_compute_146 : decode b_Ma_compute 146 = .ok (.iload 4, 2) := by decide +kernel
theorem d_Ma_compute_148 : decode b_Ma_compute 148 = .ok (.iload 5, 2) := by decide +kernel
theorem d_Ma_compute_150 : decode b_Ma_compute 150 = .ok (.ixor, 1) := by decide +kernel
theorem d_Ma_compute_151 : decode b_Ma_compute 151 = .ok (.invokevirtual 51, 3) := by decide +kernel
theorem d_Ma_compute_154 : decode b_Ma_compute 154 = .ok (.goto 57, 3) := by decide +kernel
theorem d_Ma_compute_157 : decode b_Ma_compute 157 = .ok (.aload_n 0, 1) := by decide +kernel
theorem d_Ma_compute_158 : decode b_Ma_compute 158 = .ok (.iload_n 3, 1) := by decide +kernel
theorem d_Ma_compute_159 : decode b_Ma_compute 159 = .ok (.iload 4, 2) := by decide +kernel
theorem d_Ma_compute_161 : decode b_Ma_compute 161 = .ok (.iload 5, 2) := by decide +kernel
theorem d_Ma_compute_163 : decode b_Ma_compute 163 = .ok (.bipush 31, 2) := by decide +kernel
theorem d_Ma_compute_165 : decode b_Ma_compute 165 = .ok (.iand, 1) := by decide +kernel
theorem d_Ma_compute_166 : decode b_Ma_compute 166 = .ok (.iushr, 1) := by decide +kernel
theorem d_Ma_compute_167 : decode b_Ma_compute 167 = .ok (.invokevirtual 51, 3) := by decide +kernel
theorem d_Ma_compute_170 : decode b_Ma_compute 170 = .ok (.goto 41, 3) := by decide +kernel
theorem d_Ma_compute_173 : decode b_Ma_compute 173 = .ok (.aload_n 0, 1) := by decide +kernel
theorem d_Ma_compute_174 : decode b_Ma_compute 174 = .ok (.iload_n 3, 1) := by decide +kernel
theorem d_Ma_compute_175 : decode b_Ma_compute 175 = .ok (.iload 4, 2) := by decide +kernel
theorem d_Ma_compute_177 : decode b_Ma_compute 177 = .ok (.iload 5, 2) := by decide +kernel
theorem d_Ma_compute_179 : decode b_Ma_compute 179 = .ok (.imul, 1) := by decide +kernel
theorem d_Ma_compute_180 : decode b_Ma_compute 180 = .ok (.invokevirtual 51, 3) := by decide +kernel
theorem d_Ma_compute_183 : decode b_Ma_compute 183 = .ok (.goto 28, 3) := by decide +kernel
theorem d_Ma_compute_186 : decode b_Ma_compute 186 = .ok (.aload_n 0, 1) := by decide +kernel
theorem d_Ma_compute_187 : decode b_Ma_compute 187 = .ok (.iload_n 3, 1) := by decide +kernel
theorem d_Ma_compute_188 : decode b_Ma_compute 188 = .ok (.iload 4, 2) := by decide +kernel
theorem d_Ma_compute_190 : decode b_Ma_compute 190 = .ok (.iload 5, 2) := by decide +kernel
theorem d_Ma_compute_192 : decode b_Ma_compute 192 = .ok (.if_icmp .ge 7, 3) := by decide +kernel
theorem d_Ma_compute_195 : decode b_Ma_compute 195 = .ok (.iconst 1, 1) := by decide +kernel
theorem d_Ma_compute_196 : decode b_Ma_compute 196 = .ok (.goto 4, 3) := by decide +kernel
theorem d_Ma_compute_199 : decode b_Ma_compute 199 = .ok (.iconst 0, 1) := by decide +kernel
theorem d_Ma_compute_200 : decode b_Ma_compute 200 = .ok (.invokevirtual 51, 3) := by decide +kernel
theorem d_Ma_compute_203 : decode b_Ma_compute 203 = .ok (.goto 8, 3) := by decide +kernel
theorem d_Ma_compute_206 : decode b_Ma_compute 206 = .ok (.aload_n 0, 1) := by decide +kernel
theorem d_Ma_compute_207 : decode b_Ma_compute 207 = .ok (.iconst 2, 1) := by decide +kernel
theorem d_Ma_compute_208 : decode b_Ma_compute 208 = .ok (.invokevirtual 73, 3) := by decide +kernel
theorem d_Ma_compute_211 : decode b_Ma_compute 211 = .ok (.return_, 1) := by decide +kernel
theorem d_Ma_register_0 : decode b_Ma_register 0 = .ok (.iload_n 0, 1) := by decide +kernel
theorem d_Ma_register_1 : decode b_Ma_register 1 = .ok (.iload_n 1, 1) := by decide +kernel
theorem d_Ma_register_2 : decode b_Ma_register 2 = .ok (.iushr, 1) := by decide +kernel
theorem d_Ma_register_3 : decode b_Ma_register 3 = .ok (.bipush 7, 2) := by decide +kernel
theorem d_Ma_register_5 : decode b_Ma_register 5 = .ok (.iand, 1) := by decide +kernel
theorem d_Ma_register_6 : decode b_Ma_register 6 = .ok (.ireturn, 1) := by decide +kernel
theorem d_Ma_write_0 : decode b_Ma_write 0 = .ok (.aload_n 0, 1) := by decide +kernel
theorem d_Ma_write_1 : decode b_Ma_write 1 = .ok (.iload_n 1, 1) := by decide +kernel
theorem d_Ma_write_2 : decode b_Ma_write 2 = .ok (.putfield 19, 3) := by decide +kernel
theorem d_Ma_write_5 : decode b_Ma_write 5 = .ok (.aload_n 0, 1) := by decide +kernel
theorem d_Ma_write_6 : decode b_Ma_write 6 = .ok (.aload_n 0, 1) := by decide +kernel
theorem d_Ma_write_7 : decode b_Ma_write 7 = .ok (.getfield 9, 3) := by decide +kernel
theorem d_Ma_write_10 : decode b_Ma_write 10 = .ok (.iload_n 1, 1) := by decide +kernel
theorem d_Ma_write_11 : decode b_Ma_write 11 = .ok (.iaload, 1) := by decide +kernel
theorem d_Ma_write_12 : decode b_Ma_write 12 = .ok (.putfield 77, 3) := by decide +kernel
theorem d_Ma_write_15 : decode b_Ma_write 15 = .ok (.aload_n 0, 1) := by decide +kernel
theorem d_Ma_write_16 : decode b_Ma_write 16 = .ok (.getfield 9, 3) := by decide +kernel
theorem d_Ma_write_19 : decode b_Ma_write 19 = .ok (.iload_n 1, 1) := by decide +kernel
theorem d_Ma_write_20 : decode b_Ma_write 20 = .ok (.iload_n 2, 1) := by decide +kernel
theorem d_Ma_write_21 : decode b_Ma_write 21 = .ok (.iastore, 1) := by decide +kernel
theorem d_Ma_write_22 : decode b_Ma_write 22 = .ok (.return_, 1) := by decide +kernel
theorem d_Ma_stop_0 : decode b_Ma_stop 0 = .ok (.aload_n 0, 1) := by decide +kernel
theorem d_Ma_stop_1 : decode b_Ma_stop 1 = .ok (.iload_n 1, 1) := by decide +kernel
theorem d_Ma_stop_2 : decode b_Ma_stop 2 = .ok (.putfield 15, 3) := by decide +kernel
theorem d_Ma_stop_5 : decode b_Ma_stop 5 = .ok (.aload_n 0, 1) := by decide +kernel
theorem d_Ma_stop_6 : decode b_Ma_stop 6 = .ok (.aload_n 0, 1) := by decide +kernel
theorem d_Ma_stop_7 : decode b_Ma_stop 7 = .ok (.getfield 61, 3) := by decide +kernel
theorem d_Ma_stop_10 : decode b_Ma_stop 10 = .ok (.putfield 28, 3) := by decide +kernel
theorem d_Ma_stop_13 : decode b_Ma_stop 13 = .ok (.return_, 1) := by decide +kernel
theorem d_Ma_changedNothingBut_0 : decode b_Ma_changedNothingBut 0 = .ok (.aload_n 0, 1) := by decide +kernel
theorem d_Ma_changedNothingBut_1 : decode b_Ma_changedNothingBut 1 = .ok (.invokevirtual 80, 3) := by decide +kernel
theorem d_Ma_changedNothingBut_4 : decode b_Ma_changedNothingBut 4 = .ok (.ifCond .eq 11, 3) := by decide +kernel
theorem d_Ma_changedNothingBut_7 : decode b_Ma_changedNothingBut 7 = .ok (.aload_n 0, 1) := by decide +kernel
theorem d_Ma_changedNothingBut_8 : decode b_Ma_changedNothingBut 8 = .ok (.getfield 19, 3) := by decide +kernel
theorem d_Ma_changedNothingBut_11 : decode b_Ma_changedNothingBut 11 = .ok (.iload_n 1, 1) := by decide +kernel
theorem d_Ma_changedNothingBut_12 : decode b_Ma_changedNothingBut 12 = .ok (.if_icmp .ne 7, 3) := by decide +kernel
theorem d_Ma_changedNothingBut_15 : decode b_Ma_changedNothingBut 15 = .ok (.iconst 1, 1) := by decide +kernel
theorem d_Ma_changedNothingBut_16 : decode b_Ma_changedNothingBut 16 = .ok (.goto 4, 3) := by decide +kernel
theorem d_Ma_changedNothingBut_19 : decode b_Ma_changedNothingBut 19 = .ok (.iconst 0, 1) := by decide +kernel
theorem d_Ma_changedNothingBut_20 : decode b_Ma_changedNothingBut 20 = .ok (.ireturn, 1) := by decide +kernel
theorem d_Ma_changedNumber_0 : decode b_Ma_changedNumber 0 = .ok (.aload_n 0, 1) := by decide +kernel
theorem d_Ma_changedNumber_1 : decode b_Ma_changedNumber 1 = .ok (.getfield 19, 3) := by decide +kernel
theorem d_Ma_changedNumber_4 : decode b_Ma_changedNumber 4 = .ok (.iconst (-1), 1) := by decide +kernel
theorem d_Ma_changedNumber_5 : decode b_Ma_changedNumber 5 = .ok (.if_icmp .eq 23, 3) := by decide +kernel
theorem d_Ma_changedNumber_8 : decode b_Ma_changedNumber 8 = .ok (.aload_n 0, 1) := by decide +kernel
theorem d_Ma_changedNumber_9 : decode b_Ma_changedNumber 9 = .ok (.getfield 9, 3) := by decide +kernel
theorem d_Ma_changedNumber_12 : decode b_Ma_changedNumber 12 = .ok (.aload_n 0, 1) := by decide +kernel
theorem d_Ma_changedNumber_13 : decode b_Ma_changedNumber 13 = .ok (.getfield 19, 3) := by decide +kernel
theorem d_Ma_changedNumber_16 : decode b_Ma_changedNumber 16 = .ok (.iaload, 1) := by decide +kernel
theorem d_Ma_changedNumber_17 : decode b_Ma_changedNumber 17 = .ok (.aload_n 0, 1) := by decide +kernel
theorem d_Ma_changedNumber_18 : decode b_Ma_changedNumber 18 = .ok (.getfield 77, 3) := by decide +kernel
theorem d_Ma_changedNumber_21 : decode b_Ma_changedNumber 21 = .ok (.if_icmp .eq 7, 3) := by decide +kernel
theorem d_Ma_changedNumber_24 : decode b_Ma_changedNumber 24 = .ok (.iconst 1, 1) := by decide +kernel
theorem d_Ma_changedNumber_25 : decode b_Ma_changedNumber 25 = .ok (.goto 4, 3) := by decide +kernel
theorem d_Ma_changedNumber_28 : decode b_Ma_changedNumber 28 = .ok (.iconst 0, 1) := by decide +kernel
theorem d_Ma_changedNumber_29 : decode b_Ma_changedNumber 29 = .ok (.ireturn, 1) := by decide +kernel
theorem d_Ma_costOfLatest_0 : decode b_Ma_costOfLatest 0 = .ok (.iconst 1, 1) := by decide +kernel
theorem d_Ma_costOfLatest_1 : decode b_Ma_costOfLatest 1 = .ok (.istore_n 1, 1) := by decide +kernel
theorem d_Ma_costOfLatest_2 : decode b_Ma_costOfLatest 2 = .ok (.aload_n 0, 1) := by decide +kernel
theorem d_Ma_costOfLatest_3 : decode b_Ma_costOfLatest 3 = .ok (.invokevirtual 80, 3) := by decide +kernel
theorem d_Ma_costOfLatest_6 : decode b_Ma_costOfLatest 6 = .ok (.ifCond .eq 6, 3) := by decide +kernel
theorem d_Ma_costOfLatest_9 : decode b_Ma_costOfLatest 9 = .ok (.iinc 1 1, 3) := by decide +kernel
theorem d_Ma_costOfLatest_12 : decode b_Ma_costOfLatest 12 = .ok (.aload_n 0, 1) := by decide +kernel
theorem d_Ma_costOfLatest_13 : decode b_Ma_costOfLatest 13 = .ok (.getfield 28, 3) := by decide +kernel
theorem d_Ma_costOfLatest_16 : decode b_Ma_costOfLatest 16 = .ok (.aload_n 0, 1) := by decide +kernel
theorem d_Ma_costOfLatest_17 : decode b_Ma_costOfLatest 17 = .ok (.getfield 61, 3) := by decide +kernel
theorem d_Ma_costOfLatest_20 : decode b_Ma_costOfLatest 20 = .ok (.iconst 1, 1) := by decide +kernel
theorem d_Ma_costOfLatest_21 : decode b_Ma_costOfLatest 21 = .ok (.iadd, 1) := by decide +kernel
theorem d_Ma_costOfLatest_22 : decode b_Ma_costOfLatest 22 = .ok (.bipush 63, 2) := by decide +kernel
theorem d_Ma_costOfLatest_24 : decode b_Ma_costOfLatest 24 = .ok (.iand, 1) := by decide +kernel
theorem d_Ma_costOfLatest_25 : decode b_Ma_costOfLatest 25 = .ok (.if_icmp .eq 6, 3) := by decide +kernel
theorem d_Ma_costOfLatest_28 : decode b_Ma_costOfLatest 28 = .ok (.iinc 1 1, 3) := by decide +kernel
theorem d_Ma_costOfLatest_31 : decode b_Ma_costOfLatest 31 = .ok (.aload_n 0, 1) := by decide +kernel
theorem d_Ma_costOfLatest_32 : decode b_Ma_costOfLatest 32 = .ok (.getfield 31, 3) := by decide +kernel
theorem d_Ma_costOfLatest_35 : decode b_Ma_costOfLatest 35 = .ok (.aload_n 0, 1) := by decide +kernel
theorem d_Ma_costOfLatest_36 : decode b_Ma_costOfLatest 36 = .ok (.getfield 64, 3) := by decide +kernel
theorem d_Ma_costOfLatest_39 : decode b_Ma_costOfLatest 39 = .ok (.if_icmp .eq 6, 3) := by decide +kernel
theorem d_Ma_costOfLatest_42 : decode b_Ma_costOfLatest 42 = .ok (.iinc 1 1, 3) := by decide +kernel
theorem d_Ma_costOfLatest_45 : decode b_Ma_costOfLatest 45 = .ok (.aload_n 0, 1) := by decide +kernel
theorem d_Ma_costOfLatest_46 : decode b_Ma_costOfLatest 46 = .ok (.getfield 34, 3) := by decide +kernel
theorem d_Ma_costOfLatest_49 : decode b_Ma_costOfLatest 49 = .ok (.aload_n 0, 1) := by decide +kernel
theorem d_Ma_costOfLatest_50 : decode b_Ma_costOfLatest 50 = .ok (.getfield 67, 3) := by decide +kernel
theorem d_Ma_costOfLatest_53 : decode b_Ma_costOfLatest 53 = .ok (.if_icmp .eq 6, 3) := by decide +kernel
theorem d_Ma_costOfLatest_56 : decode b_Ma_costOfLatest 56 = .ok (.iinc 1 1, 3) := by decide +kernel
theorem d_Ma_costOfLatest_59 : decode b_Ma_costOfLatest 59 = .ok (.iload_n 1, 1) := by decide +kernel
theorem d_Ma_costOfLatest_60 : decode b_Ma_costOfLatest 60 = .ok (.ireturn, 1) := by decide +kernel
theorem d_Ro_init_0 : decode b_Ro_init 0 = .ok (.aload_n 0, 1) := by decide +kernel
theorem d_Ro_init_1 : decode b_Ro_init 1 = .ok (.invokespecial 5, 3) := by decide +kernel
theorem d_Ro_init_4 : decode b_Ro_init 4 = .ok (.aload_n 0, 1) := by decide +kernel
theorem d_Ro_init_5 : decode b_Ro_init 5 = .ok (.sipush 1024, 3) := by decide +kernel
theorem d_Ro_init_8 : decode b_Ro_init 8 = .ok (.newarray .int, 2) := by decide +kernel
theorem d_Ro_init_10 : decode b_Ro_init 10 = .ok (.putfield 11, 3) := by decide +kernel
theorem d_Ro_init_13 : decode b_Ro_init 13 = .ok (.aload_n 0, 1) := by decide +kernel
theorem d_Ro_init_14 : decode b_Ro_init 14 = .ok (.sipush 1024, 3) := by decide +kernel
theorem d_Ro_init_17 : decode b_Ro_init 17 = .ok (.newarray .int, 2) := by decide +kernel
theorem d_Ro_init_19 : decode b_Ro_init 19 = .ok (.putfield 15, 3) := by decide +kernel
theorem d_Ro_init_22 : decode b_Ro_init 22 = .ok (.aload_n 0, 1) := by decide +kernel
theorem d_Ro_init_23 : decode b_Ro_init 23 = .ok (.sipush 1024, 3) := by decide +kernel
theorem d_Ro_init_26 : decode b_Ro_init 26 = .ok (.newarray .int, 2) := by decide +kernel
theorem d_Ro_init_28 : decode b_Ro_init 28 = .ok (.putfield 18, 3) := by decide +kernel
theorem d_Ro_init_31 : decode b_Ro_init 31 = .ok (.aload_n 0, 1) := by decide +kernel
theorem d_Ro_init_32 : decode b_Ro_init 32 = .ok (.sipush 1024, 3) := by decide +kernel
theorem d_Ro_init_35 : decode b_Ro_init 35 = .ok (.newarray .int, 2) := by decide +kernel
theorem d_Ro_init_37 : decode b_Ro_init 37 = .ok (.putfield 21, 3) := by decide +kernel
theorem d_Ro_init_40 : decode b_Ro_init 40 = .ok (.aload_n 0, 1) := by decide +kernel
theorem d_Ro_init_41 : decode b_Ro_init 41 = .ok (.sipush 1024, 3) := by decide +kernel
theorem d_Ro_init_44 : decode b_Ro_init 44 = .ok (.newarray .int, 2) := by decide +kernel
theorem d_Ro_init_46 : decode b_Ro_init 46 = .ok (.putfield 24, 3) := by decide +kernel
theorem d_Ro_init_49 : decode b_Ro_init 49 = .ok (.aload_n 0, 1) := by decide +kernel
theorem d_Ro_init_50 : decode b_Ro_init 50 = .ok (.sipush 1024, 3) := by decide +kernel
theorem d_Ro_init_53 : decode b_Ro_init 53 = .ok (.newarray .int, 2) := by decide +kernel
theorem d_Ro_init_55 : decode b_Ro_init 55 = .ok (.putfield 27, 3) := by decide +kernel
theorem d_Ro_init_58 : decode b_Ro_init 58 = .ok (.aload_n 0, 1) := by decide +kernel
theorem d_Ro_init_59 : decode b_Ro_init 59 = .ok (.sipush 1024, 3) := by decide +kernel
theorem d_Ro_init_62 : decode b_Ro_init 62 = .ok (.newarray .int, 2) := by decide +kernel
theorem d_Ro_init_64 : decode b_Ro_init 64 = .ok (.putfield 30, 3) := by decide +kernel
theorem d_Ro_init_67 : decode b_Ro_init 67 = .ok (.aload_n 0, 1) := by decide +kernel
theorem d_Ro_init_68 : decode b_Ro_init 68 = .ok (.sipush 1024, 3) := by decide +kernel
theorem d_Ro_init_71 : decode b_Ro_init 71 = .ok (.newarray .int, 2) := by decide +kernel
theorem d_Ro_init_73 : decode b_Ro_init 73 = .ok (.putfield 33, 3) := by decide +kernel
theorem d_Ro_init_76 : decode b_Ro_init 76 = .ok (.aload_n 0, 1) := by decide +kernel
theorem d_Ro_init_77 : decode b_Ro_init 77 = .ok (.iload_n 1, 1) := by decide +kernel
theorem d_Ro_init_78 : decode b_Ro_init 78 = .ok (.putfield 36, 3) := by decide +kernel
theorem d_Ro_init_81 : decode b_Ro_init 81 = .ok (.return_, 1) := by decide +kernel
theorem d_Ro_slot_0 : decode b_Ro_slot 0 = .ok (.iload_n 0, 1) := by decide +kernel
theorem d_Ro_slot_1 : decode b_Ro_slot 1 = .ok (.sipush 1023, 3) := by decide +kernel
theorem d_Ro_slot_4 : decode b_Ro_slot 4 = .ok (.iand, 1) := by decide +kernel
theorem d_Ro_slot_5 : decode b_Ro_slot 5 = .ok (.ireturn, 1) := by decide +kernel
theorem d_Ro_keep_0 : decode b_Ro_keep 0 = .ok (.aload_n 1, 1) := by decide +kernel
theorem d_Ro_keep_1 : decode b_Ro_keep 1 = .ok (.invokevirtual 40, 3) := by decide +kernel
theorem d_Ro_keep_4 : decode b_Ro_keep 4 = .ok (.istore_n 2, 1) := by decide +kernel
theorem d_Ro_keep_5 : decode b_Ro_keep 5 = .ok (.aload_n 0, 1) := by decide +kernel
theorem d_Ro_keep_6 : decode b_Ro_keep 6 = .ok (.getfield 46, 3) := by decide +kernel
theorem d_Ro_keep_9 : decode b_Ro_keep 9 = .ok (.aload_n 0, 1) := by decide +kernel
theorem d_Ro_keep_10 : decode b_Ro_keep 10 = .ok (.getfield 49, 3) := by decide +kernel
theorem d_Ro_keep_13 : decode b_Ro_keep 13 = .ok (.if_icmp .ge 23, 3) := by decide +kernel
theorem d_Ro_keep_16 : decode b_Ro_keep 16 = .ok (.aload_n 0, 1) := by decide +kernel
theorem d_Ro_keep_17 : decode b_Ro_keep 17 = .ok (.getfield 52, 3) := by decide +kernel
theorem d_Ro_keep_20 : decode b_Ro_keep 20 = .ok (.iload_n 2, 1) := by decide +kernel
theorem d_Ro_keep_21 : decode b_Ro_keep 21 = .ok (.iadd, 1) := by decide +kernel
theorem d_Ro_keep_22 : decode b_Ro_keep 22 = .ok (.aload_n 0, 1) := by decide +kernel
theorem d_Ro_keep_23 : decode b_Ro_keep 23 = .ok (.getfield 36, 3) := by decide +kernel
theorem d_Ro_keep_26 : decode b_Ro_keep 26 = .ok (.if_icmp .le 10, 3) := by decide +kernel
theorem d_Ro_keep_29 : decode b_Ro_keep 29 = .ok (.aload_n 0, 1) := by decide +kernel
theorem d_Ro_keep_30 : decode b_Ro_keep 30 = .ok (.invokevirtual 55, 3) := by decide +kernel
theorem d_Ro_keep_33 : decode b_Ro_keep 33 = .ok (.goto (-28), 3) := by decide +kernel
theorem d_Ro_keep_36 : decode b_Ro_keep 36 = .ok (.aload_n 0, 1) := by decide +kernel
theorem d_Ro_keep_37 : decode b_Ro_keep 37 = .ok (.getfield 49, 3) := by decide +kernel
theorem d_Ro_keep_40 : decode b_Ro_keep 40 = .ok (.invokestatic 58, 3) := by decide +kernel
theorem d_Ro_keep_43 : decode b_Ro_keep 43 = .ok (.istore_n 3, 1) := by decide +kernel
theorem d_Ro_keep_44 : decode b_Ro_keep 44 = .ok (.aload_n 0, 1) := by decide +kernel
theorem d_Ro_keep_45 : decode b_Ro_keep 45 = .ok (.getfield 11, 3) := by decide +kernel
theorem d_Ro_keep_48 : decode b_Ro_keep 48 = .ok (.iload_n 3, 1) := by decide +kernel
theorem d_Ro_keep_49 : decode b_Ro_keep 49 = .ok (.iload_n 2, 1) := by decide +kernel
theorem d_Ro_keep_50 : decode b_Ro_keep 50 = .ok (.iastore, 1) := by decide +kernel
theorem d_Ro_keep_51 : decode b_Ro_keep 51 = .ok (.aload_n 0, 1) := by decide +kernel
theorem d_Ro_keep_52 : decode b_Ro_keep 52 = .ok (.getfield 15, 3) := by decide +kernel
theorem d_Ro_keep_55 : decode b_Ro_keep 55 = .ok (.iload_n 3, 1) := by decide +kernel
theorem d_Ro_keep_56 : decode b_Ro_keep 56 = .ok (.aload_n 1, 1) := by decide +kernel
theorem d_Ro_keep_57 : decode b_Ro_keep 57 = .ok (.getfield 62, 3) := by decide +kernel
theorem d_Ro_keep_60 : decode b_Ro_keep 60 = .ok (.iastore, 1) := by decide +kernel
theorem d_Ro_keep_61 : decode b_Ro_keep 61 = .ok (.aload_n 0, 1) := by decide +kernel
theorem d_Ro_keep_62 : decode b_Ro_keep 62 = .ok (.getfield 18, 3) := by decide +kernel
theorem d_Ro_keep_65 : decode b_Ro_keep 65 = .ok (.iload_n 3, 1) := by decide +kernel
theorem d_Ro_keep_66 : decode b_Ro_keep 66 = .ok (.aload_n 1, 1) := by decide +kernel
theorem d_Ro_keep_67 : decode b_Ro_keep 67 = .ok (.getfield 64, 3) := by decide +kernel
theorem d_Ro_keep_70 : decode b_Ro_keep 70 = .ok (.iastore, 1) := by decide +kernel
theorem d_Ro_keep_71 : decode b_Ro_keep 71 = .ok (.aload_n 0, 1) := by decide +kernel
theorem d_Ro_keep_72 : decode b_Ro_keep 72 = .ok (.getfield 21, 3) := by decide +kernel
theorem d_Ro_keep_75 : decode b_Ro_keep 75 = .ok (.iload_n 3, 1) := by decide +kernel
theorem d_Ro_keep_76 : decode b_Ro_keep 76 = .ok (.aload_n 1, 1) := by decide +kernel
theorem d_Ro_keep_77 : decode b_Ro_keep 77 = .ok (.getfield 62, 3) := by decide +kernel
theorem d_Ro_keep_80 : decode b_Ro_keep 80 = .ok (.iconst (-1), 1) := by decide +kernel
theorem d_Ro_keep_81 : decode b_Ro_keep 81 = .ok (.if_icmp .ne 7, 3) := by decide +kernel
theorem d_Ro_keep_84 : decode b_Ro_keep 84 = .ok (.iconst 0, 1) := by decide +kernel
theorem d_Ro_keep_85 : decode b_Ro_keep 85 = .ok (.goto 12, 3) := by decide +kernel
theorem d_Ro_keep_88 : decode b_Ro_keep 88 = .ok (.aload_n 1, 1) := by decide +kernel
theorem d_Ro_keep_89 : decode b_Ro_keep 89 = .ok (.getfield 67, 3) := by decide +kernel
theorem d_Ro_keep_92 : decode b_Ro_keep 92 = .ok (.aload_n 1, 1) := by decide +kernel
theorem d_Ro_keep_93 : decode b_Ro_keep 93 = .ok (.getfield 62, 3) := by decide +kernel
theorem d_Ro_keep_96 : decode b_Ro_keep 96 = .ok (.iaload, 1) := by decide +kernel
theorem d_Ro_keep_97 : decode b_Ro_keep 97 = .ok (.iastore, 1) := by decide +kernel
theorem d_Ro_keep_98 : decode b_Ro_keep 98 = .ok (.aload_n 0, 1) := by decide +kernel
theorem d_Ro_keep_99 : decode b_Ro_keep 99 = .ok (.getfield 24, 3) := by decide +kernel
theorem d_Ro_keep_102 : decode b_Ro_keep 102 = .ok (.iload_n 3, 1) := by decide +kernel
theorem d_Ro_keep_103 : decode b_Ro_keep 103 = .ok (.aload_n 1, 1) := by decide +kernel
theorem d_Ro_keep_104 : decode b_Ro_keep 104 = .ok (.getfield 70, 3) := by decide +kernel
theorem d_Ro_keep_107 : decode b_Ro_keep 107 = .ok (.iastore, 1) := by decide +kernel
theorem d_Ro_keep_108 : decode b_Ro_keep 108 = .ok (.aload_n 0, 1) := by decide +kernel
theorem d_Ro_keep_109 : decode b_Ro_keep 109 = .ok (.getfield 27, 3) := by decide +kernel
theorem d_Ro_keep_112 : decode b_Ro_keep 112 = .ok (.iload_n 3, 1) := by decide +kernel
theorem d_Ro_keep_113 : decode b_Ro_keep 113 = .ok (.aload_n 1, 1) := by decide +kernel
theorem d_Ro_keep_114 : decode b_Ro_keep 114 = .ok (.getfield 73, 3) := by decide +kernel
theorem d_Ro_keep_117 : decode b_Ro_keep 117 = .ok (.iastore, 1) := by decide +kernel
theorem d_Ro_keep_118 : decode b_Ro_keep 118 = .ok (.aload_n 0, 1) := by decide +kernel
theorem d_Ro_keep_119 : decode b_Ro_keep 119 = .ok (.getfield 30, 3) := by decide +kernel
theorem d_Ro_keep_122 : decode b_Ro_keep 122 = .ok (.iload_n 3, 1) := by decide +kernel
theorem d_Ro_keep_123 : decode b_Ro_keep 123 = .ok (.aload_n 1, 1) := by decide +kernel
theorem d_Ro_keep_124 : decode b_Ro_keep 124 = .ok (.getfield 76, 3) := by decide +kernel
theorem d_Ro_keep_127 : decode b_Ro_keep 127 = .ok (.iastore, 1) := by decide +kernel
theorem d_Ro_keep_128 : decode b_Ro_keep 128 = .ok (.aload_n 0, 1) := by decide +kernel
theorem d_Ro_keep_129 : decode b_Ro_keep 129 = .ok (.getfield 33, 3) := by decide +kernel
theorem d_Ro_keep_132 : decode b_Ro_keep 132 = .ok (.iload_n 3, 1) := by decide +kernel
theorem d_Ro_keep_133 : decode b_Ro_keep 133 = .ok (.aload_n 1, 1) := by decide +kernel
theorem d_Ro_keep_134 : decode b_Ro_keep 134 = .ok (.getfield 79, 3) := by decide +kernel
theorem d_Ro_keep_137 : decode b_Ro_keep 137 = .ok (.iastore, 1) := by decide +kernel
theorem d_Ro_keep_138 : decode b_Ro_keep 138 = .ok (.aload_n 0, 1) := by decide +kernel
theorem d_Ro_keep_139 : decode b_Ro_keep 139 = .ok (.dup, 1) := by decide +kernel
theorem d_Ro_keep_140 : decode b_Ro_keep 140 = .ok (.getfield 52, 3) := by decide +kernel
theorem d_Ro_keep_143 : decode b_Ro_keep 143 = .ok (.iload_n 2, 1) := by decide +kernel
theorem d_Ro_keep_144 : decode b_Ro_keep 144 = .ok (.iadd, 1) := by decide +kernel
theorem d_Ro_keep_145 : decode b_Ro_keep 145 = .ok (.putfield 52, 3) := by decide +kernel
theorem d_Ro_keep_148 : decode b_Ro_keep 148 = .ok (.aload_n 0, 1) := by decide +kernel
theorem d_Ro_keep_149 : decode b_Ro_keep 149 = .ok (.dup, 1) := by decide +kernel
theorem d_Ro_keep_150 : decode b_Ro_keep 150 = .ok (.getfield 49, 3) := by decide +kernel
theorem d_Ro_keep_153 : decode b_Ro_keep 153 = .ok (.iconst 1, 1) := by decide +kernel
theorem d_Ro_keep_154 : decode b_Ro_keep 154 = .ok (.iadd, 1) := by decide +kernel
theorem d_Ro_keep_155 : decode b_Ro_keep 155 = .ok (.putfield 49, 3) := by decide +kernel
theorem d_Ro_keep_158 : decode b_Ro_keep 158 = .ok (.return_, 1) := by decide +kernel
theorem d_Ro_dropOldest_0 : decode b_Ro_dropOldest 0 = .ok (.aload_n 0, 1) := by decide +kernel
theorem d_Ro_dropOldest_1 : decode b_Ro_dropOldest 1 = .ok (.dup, 1) := by decide +kernel
theorem d_Ro_dropOldest_2 : decode b_Ro_dropOldest 2 = .ok (.getfield 52, 3) := by decide +kernel
theorem d_Ro_dropOldest_5 : decode b_Ro_dropOldest 5 = .ok (.aload_n 0, 1) := by decide +kernel
theorem d_Ro_dropOldest_6 : decode b_Ro_dropOldest 6 = .ok (.getfield 11, 3) := by decide +kernel
theorem d_Ro_dropOldest_9 : decode b_Ro_dropOldest 9 = .ok (.aload_n 0, 1) := by decide +kernel
theorem d_Ro_dropOldest_10 : decode b_Ro_dropOldest 10 = .ok (.getfield 46, 3) := by decide +kernel
theorem d_Ro_dropOldest_13 : decode b_Ro_dropOldest 13 = .ok (.invokestatic 58, 3) := by decide +kernel
theorem d_Ro_dropOldest_16 : decode b_Ro_dropOldest 16 = .ok (.iaload, 1) := by decide +kernel
theorem d_Ro_dropOldest_17 : decode b_Ro_dropOldest 17 = .ok (.isub, 1) := by decide +kernel
theorem d_Ro_dropOldest_18 : decode b_Ro_dropOldest 18 = .ok (.putfield 52, 3) := by decide +kernel
theorem d_Ro_dropOldest_21 : decode b_Ro_dropOldest 21 = .ok (.aload_n 0, 1) := by decide +kernel
theorem d_Ro_dropOldest_22 : decode b_Ro_dropOldest 22 = .ok (.dup, 1) := by decide +kernel
theorem d_Ro_dropOldest_23 : decode b_Ro_dropOldest 23 = .ok (.getfield 46, 3) := by decide +kernel
theorem d_Ro_dropOldest_26 : decode b_Ro_dropOldest 26 = .ok (.iconst 1, 1) := by decide +kernel
theorem d_Ro_dropOldest_27 : decode b_Ro_dropOldest 27 = .ok (.iadd, 1) := by decide +kernel
theorem d_Ro_dropOldest_28 : decode b_Ro_dropOldest 28 = .ok (.putfield 46, 3) := by decide +kernel
theorem d_Ro_dropOldest_31 : decode b_Ro_dropOldest 31 = .ok (.aload_n 0, 1) := by decide +kernel
theorem d_Ro_dropOldest_32 : decode b_Ro_dropOldest 32 = .ok (.dup, 1) := by decide +kernel
theorem d_Ro_dropOldest_33 : decode b_Ro_dropOldest 33 = .ok (.getfield 82, 3) := by decide +kernel
theorem d_Ro_dropOldest_36 : decode b_Ro_dropOldest 36 = .ok (.iconst 1, 1) := by decide +kernel
theorem d_Ro_dropOldest_37 : decode b_Ro_dropOldest 37 = .ok (.iadd, 1) := by decide +kernel
theorem d_Ro_dropOldest_38 : decode b_Ro_dropOldest 38 = .ok (.putfield 82, 3) := by decide +kernel
theorem d_Ro_dropOldest_41 : decode b_Ro_dropOldest 41 = .ok (.return_, 1) := by decide +kernel
theorem d_Ro_dropAll_0 : decode b_Ro_dropAll 0 = .ok (.aload_n 0, 1) := by decide +kernel
theorem d_Ro_dropAll_1 : decode b_Ro_dropAll 1 = .ok (.dup, 1) := by decide +kernel
theorem d_Ro_dropAll_2 : decode b_Ro_dropAll 2 = .ok (.getfield 82, 3) := by decide +kernel
theorem d_Ro_dropAll_5 : decode b_Ro_dropAll 5 = .ok (.aload_n 0, 1) := by decide +kernel
theorem d_Ro_dropAll_6 : decode b_Ro_dropAll 6 = .ok (.getfield 49, 3) := by decide +kernel
theorem d_Ro_dropAll_9 : decode b_Ro_dropAll 9 = .ok (.aload_n 0, 1) := by decide +kernel
theorem d_Ro_dropAll_10 : decode b_Ro_dropAll 10 = .ok (.getfield 46, 3) := by decide +kernel
theorem d_Ro_dropAll_13 : decode b_Ro_dropAll 13 = .ok (.isub, 1) := by decide +kernel
theorem d_Ro_dropAll_14 : decode b_Ro_dropAll 14 = .ok (.iadd, 1) := by decide +kernel
theorem d_Ro_dropAll_15 : decode b_Ro_dropAll 15 = .ok (.putfield 82, 3) := by decide +kernel
theorem d_Ro_dropAll_18 : decode b_Ro_dropAll 18 = .ok (.aload_n 0, 1) := by decide +kernel
theorem d_Ro_dropAll_19 : decode b_Ro_dropAll 19 = .ok (.aload_n 0, 1) := by decide +kernel
theorem d_Ro_dropAll_20 : decode b_Ro_dropAll 20 = .ok (.getfield 49, 3) := by decide +kernel
theorem d_Ro_dropAll_23 : decode b_Ro_dropAll 23 = .ok (.putfield 46, 3) := by decide +kernel
theorem d_Ro_dropAll_26 : decode b_Ro_dropAll 26 = .ok (.aload_n 0, 1) := by decide +kernel
theorem d_Ro_dropAll_27 : decode b_Ro_dropAll 27 = .ok (.iconst 0, 1) := by decide +kernel
theorem d_Ro_dropAll_28 : decode b_Ro_dropAll 28 = .ok (.putfield 52, 3) := by decide +kernel
theorem d_Ro_dropAll_31 : decode b_Ro_dropAll 31 = .ok (.return_, 1) := by decide +kernel
theorem d_Ro_forgetBehind_0 : decode b_Ro_forgetBehind 0 = .ok (.aload_n 0, 1) := by decide +kernel
theorem d_Ro_forgetBehind_1 : decode b_Ro_forgetBehind 1 = .ok (.getfield 49, 3) := by decide +kernel
theorem d_Ro_forgetBehind_4 : decode b_Ro_forgetBehind 4 = .ok (.iload_n 1, 1) := by decide +kernel
theorem d_Ro_forgetBehind_5 : decode b_Ro_forgetBehind 5 = .ok (.if_icmp .le 37, 3) := by decide +kernel
theorem d_Ro_forgetBehind_8 : decode b_Ro_forgetBehind 8 = .ok (.aload_n 0, 1) := by decide +kernel
theorem d_Ro_forgetBehind_9 : decode b_Ro_forgetBehind 9 = .ok (.dup, 1) := by decide +kernel
theorem d_Ro_forgetBehind_10 : decode b_Ro_forgetBehind 10 = .ok (.getfield 49, 3) := by decide +kernel
theorem d_Ro_forgetBehind_13 : decode b_Ro_forgetBehind 13 = .ok (.iconst 1, 1) := by decide +kernel
theorem d_Ro_forgetBehind_14 : decode b_Ro_forgetBehind 14 = .ok (.isub, 1) := by decide +kernel
theorem d_Ro_forgetBehind_15 : decode b_Ro_forgetBehind 15 = .ok (.putfield 49, 3) := by decide +kernel
theorem d_Ro_forgetBehind_18 : decode b_Ro_forgetBehind 18 = .ok (.aload_n 0, 1) := by decide +kernel
theorem d_Ro_forgetBehind_19 : decode b_Ro_forgetBehind 19 = .ok (.dup, 1) := by decide +kernel
theorem d_Ro_forgetBehind_20 : decode b_Ro_forgetBehind 20 = .ok (.getfield 52, 3) := by decide +kernel
theorem d_Ro_forgetBehind_23 : decode b_Ro_forgetBehind 23 = .ok (.aload_n 0, 1) := by decide +kernel
theorem d_Ro_forgetBehind_24 : decode b_Ro_forgetBehind 24 = .ok (.getfield 11, 3) := by decide +kernel
theorem d_Ro_forgetBehind_27 : decode b_Ro_forgetBehind 27 = .ok (.aload_n 0, 1) := by decide +kernel
theorem d_Ro_forgetBehind_28 : decode b_Ro_forgetBehind 28 = .ok (.getfield 49, 3) := by decide +kernel
theorem d_Ro_forgetBehind_31 : decode b_Ro_forgetBehind 31 = .ok (.invokestatic 58, 3) := by decide +kernel
theorem d_Ro_forgetBehind_34 : decode b_Ro_forgetBehind 34 = .ok (.iaload, 1) := by decide +kernel
theorem d_Ro_forgetBehind_35 : decode b_Ro_forgetBehind 35 = .ok (.isub, 1) := by decide +kernel
theorem d_Ro_forgetBehind_36 : decode b_Ro_forgetBehind 36 = .ok (.putfield 52, 3) := by decide +kernel
theorem d_Ro_forgetBehind_39 : decode b_Ro_forgetBehind 39 = .ok (.goto (-39), 3) := by decide +kernel
theorem d_Ro_forgetBehind_42 : decode b_Ro_forgetBehind 42 = .ok (.return_, 1) := by decide +kernel
theorem d_Ro_undoDownTo_0 : decode b_Ro_undoDownTo 0 = .ok (.aload_n 0, 1) := by decide +kernel
theorem d_Ro_undoDownTo_1 : decode b_Ro_undoDownTo 1 = .ok (.getfield 49, 3) := by decide +kernel
theorem d_Ro_undoDownTo_4 : decode b_Ro_undoDownTo 4 = .ok (.istore_n 3, 1) := by decide +kernel
theorem d_Ro_undoDownTo_5 : decode b_Ro_undoDownTo 5 = .ok (.iload_n 3, 1) := by decide +kernel
theorem d_Ro_undoDownTo_6 : decode b_Ro_undoDownTo 6 = .ok (.iload_n 1, 1) := by decide +kernel
theorem d_Ro_undoDownTo_7 : decode b_Ro_undoDownTo 7 = .ok (.if_icmp .le 20, 3) := by decide +kernel
theorem d_Ro_undoDownTo_10 : decode b_Ro_undoDownTo 10 = .ok (.aload_n 0, 1) := by decide +kernel
theorem d_Ro_undoDownTo_11 : decode b_Ro_undoDownTo 11 = .ok (.iload_n 3, 1) := by decide +kernel
theorem d_Ro_undoDownTo_12 : decode b_Ro_undoDownTo 12 = .ok (.iconst 1, 1) := by decide +kernel
theorem d_Ro_undoDownTo_13 : decode b_Ro_undoDownTo 13 = .ok (.isub, 1) := by decide +kernel
theorem d_Ro_undoDownTo_14 : decode b_Ro_undoDownTo 14 = .ok (.invokestatic 58, 3) := by decide +kernel
theorem d_Ro_undoDownTo_17 : decode b_Ro_undoDownTo 17 = .ok (.aload_n 2, 1) := by decide +kernel
theorem d_Ro_undoDownTo_18 : decode b_Ro_undoDownTo 18 = .ok (.invokevirtual 85, 3) := by decide +kernel
theorem d_Ro_undoDownTo_21 : decode b_Ro_undoDownTo 21 = .ok (.iinc 3 (-1), 3) := by decide +kernel
theorem d_Ro_undoDownTo_24 : decode b_Ro_undoDownTo 24 = .ok (.goto (-19), 3) := by decide +kernel
theorem d_Ro_undoDownTo_27 : decode b_Ro_undoDownTo 27 = .ok (.return_, 1) := by decide +kernel
theorem d_Ro_undo_0 : decode b_Ro_undo 0 = .ok (.aload_n 0, 1) := by decide +kernel
theorem d_Ro_undo_1 : decode b_Ro_undo 1 = .ok (.getfield 15, 3) := by decide +kernel
theorem d_Ro_undo_4 : decode b_Ro_undo 4 = .ok (.iload_n 1, 1) := by decide +kernel
theorem d_Ro_undo_5 : decode b_Ro_undo 5 = .ok (.iaload, 1) := by decide +kernel
theorem d_Ro_undo_6 : decode b_Ro_undo 6 = .ok (.iconst (-1), 1) := by decide +kernel
theorem d_Ro_undo_7 : decode b_Ro_undo 7 = .ok (.if_icmp .eq 20, 3) := by decide +kernel
theorem d_Ro_undo_10 : decode b_Ro_undo 10 = .ok (.aload_n 2, 1) := by decide +kernel
theorem d_Ro_undo_11 : decode b_Ro_undo 11 = .ok (.getfield 67, 3) := by decide +kernel
theorem d_Ro_undo_14 : decode b_Ro_undo 14 = .ok (.aload_n 0, 1) := by decide +kernel
theorem d_Ro_undo_15 : decode b_Ro_undo 15 = .ok (.getfield 15, 3) := by decide +kernel
theorem d_Ro_undo_18 : decode b_Ro_undo 18 = .ok (.iload_n 1, 1) := by decide +kernel
theorem d_Ro_undo_19 : decode b_Ro_undo 19 = .ok (.iaload, 1) := by decide +kernel
theorem d_Ro_undo_20 : decode b_Ro_undo 20 = .ok (.aload_n 0, 1) := by decide +kernel
theorem d_Ro_undo_21 : decode b_Ro_undo 21 = .ok (.getfield 18, 3) := by decide +kernel
theorem d_Ro_undo_24 : decode b_Ro_undo 24 = .ok (.iload_n 1, 1) := by decide +kernel
theorem d_Ro_undo_25 : decode b_Ro_undo 25 = .ok (.iaload, 1) := by decide +kernel
theorem d_Ro_undo_26 : decode b_Ro_undo 26 = .ok (.iastore, 1) := by decide +kernel
theorem d_Ro_undo_27 : decode b_Ro_undo 27 = .ok (.aload_n 2, 1) := by decide +kernel
theorem d_Ro_undo_28 : decode b_Ro_undo 28 = .ok (.aload_n 0, 1) := by decide +kernel
theorem d_Ro_undo_29 : decode b_Ro_undo 29 = .ok (.getfield 24, 3) := by decide +kernel
theorem d_Ro_undo_32 : decode b_Ro_undo 32 = .ok (.iload_n 1, 1) := by decide +kernel
theorem d_Ro_undo_33 : decode b_Ro_undo 33 = .ok (.iaload, 1) := by decide +kernel
theorem d_Ro_undo_34 : decode b_Ro_undo 34 = .ok (.putfield 89, 3) := by decide +kernel
theorem d_Ro_undo_37 : decode b_Ro_undo 37 = .ok (.aload_n 2, 1) := by decide +kernel
theorem d_Ro_undo_38 : decode b_Ro_undo 38 = .ok (.aload_n 0, 1) := by decide +kernel
theorem d_Ro_undo_39 : decode b_Ro_undo 39 = .ok (.getfield 27, 3) := by decide +kernel
theorem d_Ro_undo_42 : decode b_Ro_undo 42 = .ok (.iload_n 1, 1) := by decide +kernel
theorem d_Ro_undo_43 : decode b_Ro_undo 43 = .ok (.iaload, 1) := by decide +kernel
theorem d_Ro_undo_44 : decode b_Ro_undo 44 = .ok (.putfield 92, 3) := by decide +kernel
theorem d_Ro_undo_47 : decode b_Ro_undo 47 = .ok (.aload_n 2, 1) := by decide +kernel
theorem d_Ro_undo_48 : decode b_Ro_undo 48 = .ok (.aload_n 0, 1) := by decide +kernel
theorem d_Ro_undo_49 : decode b_Ro_undo 49 = .ok (.getfield 30, 3) := by decide +kernel
theorem d_Ro_undo_52 : decode b_Ro_undo 52 = .ok (.iload_n 1, 1) := by decide +kernel
theorem d_Ro_undo_53 : decode b_Ro_undo 53 = .ok (.iaload, 1) := by decide +kernel
theorem d_Ro_undo_54 : decode b_Ro_undo 54 = .ok (.putfield 95, 3) := by decide +kernel
theorem d_Ro_undo_57 : decode b_Ro_undo 57 = .ok (.aload_n 2, 1) := by decide +kernel
theorem d_Ro_undo_58 : decode b_Ro_undo 58 = .ok (.aload_n 0, 1) := by decide +kernel
theorem d_Ro_undo_59 : decode b_Ro_undo 59 = .ok (.getfield 33, 3) := by decide +kernel
theorem d_Ro_undo_62 : decode b_Ro_undo 62 = .ok (.iload_n 1, 1) := by decide +kernel
theorem d_Ro_undo_63 : decode b_Ro_undo 63 = .ok (.iaload, 1) := by decide +kernel
theorem d_Ro_undo_64 : decode b_Ro_undo 64 = .ok (.putfield 97, 3) := by decide +kernel
theorem d_Ro_undo_67 : decode b_Ro_undo 67 = .ok (.aload_n 2, 1) := by decide +kernel
theorem d_Ro_undo_68 : decode b_Ro_undo 68 = .ok (.iconst 0, 1) := by decide +kernel
theorem d_Ro_undo_69 : decode b_Ro_undo 69 = .ok (.putfield 100, 3) := by decide +kernel
theorem d_Ro_undo_72 : decode b_Ro_undo 72 = .ok (.return_, 1) := by decide +kernel
theorem d_Ro_costOf_0 : decode b_Ro_costOf 0 = .ok (.aload_n 0, 1) := by decide +kernel
theorem d_Ro_costOf_1 : decode b_Ro_costOf 1 = .ok (.getfield 11, 3) := by decide +kernel
theorem d_Ro_costOf_4 : decode b_Ro_costOf 4 = .ok (.iload_n 1, 1) := by decide +kernel
theorem d_Ro_costOf_5 : decode b_Ro_costOf 5 = .ok (.invokestatic 58, 3) := by decide +kernel
theorem d_Ro_costOf_8 : decode b_Ro_costOf 8 = .ok (.iaload, 1) := by decide +kernel
theorem d_Ro_costOf_9 : decode b_Ro_costOf 9 = .ok (.ireturn, 1) := by decide +kernel
theorem d_Ro_writtenBy_0 : decode b_Ro_writtenBy 0 = .ok (.aload_n 0, 1) := by decide +kernel
theorem d_Ro_writtenBy_1 : decode b_Ro_writtenBy 1 = .ok (.getfield 15, 3) := by decide +kernel
theorem d_Ro_writtenBy_4 : decode b_Ro_writtenBy 4 = .ok (.iload_n 1, 1) := by decide +kernel
theorem d_Ro_writtenBy_5 : decode b_Ro_writtenBy 5 = .ok (.invokestatic 58, 3) := by decide +kernel
theorem d_Ro_writtenBy_8 : decode b_Ro_writtenBy 8 = .ok (.iaload, 1) := by decide +kernel
theorem d_Ro_writtenBy_9 : decode b_Ro_writtenBy 9 = .ok (.ireturn, 1) := by decide +kernel
theorem d_Ro_numberBefore_0 : decode b_Ro_numberBefore 0 = .ok (.iload_n 1, 1) := by decide +kernel
theorem d_Ro_numberBefore_1 : decode b_Ro_numberBefore 1 = .ok (.invokestatic 58, 3) := by decide +kernel
theorem d_Ro_numberBefore_4 : decode b_Ro_numberBefore 4 = .ok (.istore 4, 2) := by decide +kernel
theorem d_Ro_numberBefore_6 : decode b_Ro_numberBefore 6 = .ok (.aload_n 0, 1) := by decide +kernel
theorem d_Ro_numberBefore_7 : decode b_Ro_numberBefore 7 = .ok (.getfield 15, 3) := by decide +kernel
theorem d_Ro_numberBefore_10 : decode b_Ro_numberBefore 10 = .ok (.iload 4, 2) := by decide +kernel
theorem d_Ro_numberBefore_12 : decode b_Ro_numberBefore 12 = .ok (.iaload, 1) := by decide +kernel
theorem d_Ro_numberBefore_13 : decode b_Ro_numberBefore 13 = .ok (.iload_n 2, 1) := by decide +kernel
theorem d_Ro_numberBefore_14 : decode b_Ro_numberBefore 14 = .ok (.if_icmp .ne 13, 3) := by decide +kernel
theorem d_Ro_numberBefore_17 : decode b_Ro_numberBefore 17 = .ok (.aload_n 0, 1) := by decide +kernel
theorem d_Ro_numberBefore_18 : decode b_Ro_numberBefore 18 = .ok (.getfield 18, 3) := by decide +kernel
theorem d_Ro_numberBefore_21 : decode b_Ro_numberBefore 21 = .ok (.iload 4, 2) := by decide +kernel
theorem d_Ro_numberBefore_23 : decode b_Ro_numberBefore 23 = .ok (.iaload, 1) := by decide +kernel
theorem d_Ro_numberBefore_24 : decode b_Ro_numberBefore 24 = .ok (.goto 4, 3) := by decide +kernel
theorem d_Ro_numberBefore_27 : decode b_Ro_numberBefore 27 = .ok (.iload_n 3, 1) := by decide +kernel
theorem d_Ro_numberBefore_28 : decode b_Ro_numberBefore 28 = .ok (.ireturn, 1) := by decide +kernel
theorem d_Ro_restBefore_0 : decode b_Ro_restBefore 0 = .ok (.iload_n 1, 1) := by decide +kernel
theorem d_Ro_restBefore_1 : decode b_Ro_restBefore 1 = .ok (.invokestatic 58, 3) := by decide +kernel
theorem d_Ro_restBefore_4 : decode b_Ro_restBefore 4 = .ok (.istore_n 3, 1) := by decide +kernel
theorem d_Ro_restBefore_5 : decode b_Ro_restBefore 5 = .ok (.iload_n 2, 1) := by decide +kernel
theorem d_Ro_restBefore_6 : decode b_Ro_restBefore 6 = .ok (.tableswitch 58 264 267 #[30, 37, 44, 51], 30) := by decide +kernel
theorem d_Ro_restBefore_36 : decode b_Ro_restBefore 36 = .ok (.aload_n 0, 1) := by decide +kernel
theorem d_Ro_restBefore_37 : decode b_Ro_restBefore 37 = .ok (.getfield 24, 3) := by decide +kernel
theorem d_Ro_restBefore_40 : decode b_Ro_restBefore 40 = .ok (.iload_n 3, 1) := by decide +kernel
theorem d_Ro_restBefore_41 : decode b_Ro_restBefore 41 = .ok (.iaload, 1) := by decide +kernel
theorem d_Ro_restBefore_42 : decode b_Ro_restBefore 42 = .ok (.ireturn, 1) := by decide +kernel
theorem d_Ro_restBefore_43 : decode b_Ro_restBefore 43 = .ok (.aload_n 0, 1) := by decide +kernel
theorem d_Ro_restBefore_44 : decode b_Ro_restBefore 44 = .ok (.getfield 27, 3) := by decide +kernel
theorem d_Ro_restBefore_47 : decode b_Ro_restBefore 47 = .ok (.iload_n 3, 1) := by decide +kernel
theorem d_Ro_restBefore_48 : decode b_Ro_restBefore 48 = .ok (.iaload, 1) := by decide +kernel
theorem d_Ro_restBefore_49 : decode b_Ro_restBefore 49 = .ok (.ireturn, 1) := by decide +kernel
theorem d_Ro_restBefore_50 : decode b_Ro_restBefore 50 = .ok (.aload_n 0, 1) := by decide +kernel
theorem d_Ro_restBefore_51 : decode b_Ro_restBefore 51 = .ok (.getfield 30, 3) := by decide +kernel
theorem d_Ro_restBefore_54 : decode b_Ro_restBefore 54 = .ok (.iload_n 3, 1) := by decide +kernel
theorem d_Ro_restBefore_55 : decode b_Ro_restBefore 55 = .ok (.iaload, 1) := by decide +kernel
theorem d_Ro_restBefore_56 : decode b_Ro_restBefore 56 = .ok (.ireturn, 1) := by decide +kernel
theorem d_Ro_restBefore_57 : decode b_Ro_restBefore 57 = .ok (.aload_n 0, 1) := by decide +kernel
theorem d_Ro_restBefore_58 : decode b_Ro_restBefore 58 = .ok (.getfield 33, 3) := by decide +kernel
theorem d_Ro_restBefore_61 : decode b_Ro_restBefore 61 = .ok (.iload_n 3, 1) := by decide +kernel
theorem d_Ro_restBefore_62 : decode b_Ro_restBefore 62 = .ok (.iaload, 1) := by decide +kernel
theorem d_Ro_restBefore_63 : decode b_Ro_restBefore 63 = .ok (.ireturn, 1) := by decide +kernel
theorem d_Ro_restBefore_64 : decode b_Ro_restBefore 64 = .ok (.iconst 0, 1) := by decide +kernel
theorem d_Ro_restBefore_65 : decode b_Ro_restBefore 65 = .ok (.ireturn, 1) := by decide +kernel
theorem d_Ro_sameNumbersBehind_0 : decode b_Ro_sameNumbersBehind 0 = .ok (.iload_n 1, 1) := by decide +kernel
theorem d_Ro_sameNumbersBehind_1 : decode b_Ro_sameNumbersBehind 1 = .ok (.invokestatic 58, 3) := by decide +kernel
theorem d_Ro_sameNumbersBehind_4 : decode b_Ro_sameNumbersBehind 4 = .ok (.istore_n 3, 1) := by decide +kernel
theorem d_Ro_sameNumbersBehind_5 : decode b_Ro_sameNumbersBehind 5 = .ok (.aload_n 0, 1) := by decide +kernel
theorem d_Ro_sameNumbersBehind_6 : decode b_Ro_sameNumbersBehind 6 = .ok (.getfield 15, 3) := by decide +kernel
theorem d_Ro_sameNumbersBehind_9 : decode b_Ro_sameNumbersBehind 9 = .ok (.iload_n 3, 1) := by decide +kernel
theorem d_Ro_sameNumbersBehind_10 : decode b_Ro_sameNumbersBehind 10 = .ok (.iaload, 1) := by decide +kernel
theorem d_Ro_sameNumbersBehind_11 : decode b_Ro_sameNumbersBehind 11 = .ok (.istore 4, 2) := by decide +kernel
theorem d_Ro_sameNumbersBehind_13 : decode b_Ro_sameNumbersBehind 13 = .ok (.aload_n 2, 1) := by decide +kernel
theorem d_Ro_sameNumbersBehind_14 : decode b_Ro_sameNumbersBehind 14 = .ok (.iload 4, 2) := by decide +kernel
theorem d_Ro_sameNumbersBehind_16 : decode b_Ro_sameNumbersBehind 16 = .ok (.invokevirtual 103, 3) := by decide +kernel
theorem d_Ro_sameNumbersBehind_19 : decode b_Ro_sameNumbersBehind 19 = .ok (.ifCond .eq 29, 3) := by decide +kernel
theorem d_Ro_sameNumbersBehind_22 : decode b_Ro_sameNumbersBehind 22 = .ok (.iload 4, 2) := by decide +kernel
theorem d_Ro_sameNumbersBehind_24 : decode b_Ro_sameNumbersBehind 24 = .ok (.iconst (-1), 1) := by decide +kernel
theorem d_Ro_sameNumbersBehind_25 : decode b_Ro_sameNumbersBehind 25 = .ok (.if_icmp .eq 19, 3) := by decide +kernel
theorem d_Ro_sameNumbersBehind_28 : decode b_Ro_sameNumbersBehind 28 = .ok (.aload_n 2, 1) := by decide +kernel
theorem d_Ro_sameNumbersBehind_29 : decode b_Ro_sameNumbersBehind 29 = .ok (.getfield 67, 3) := by decide +kernel
theorem d_Ro_sameNumbersBehind_32 : decode b_Ro_sameNumbersBehind 32 = .ok (.iload 4, 2) := by decide +kernel
theorem d_Ro_sameNumbersBehind_34 : decode b_Ro_sameNumbersBehind 34 = .ok (.iaload, 1) := by decide +kernel
theorem d_Ro_sameNumbersBehind_35 : decode b_Ro_sameNumbersBehind 35 = .ok (.aload_n 0, 1) := by decide +kernel
theorem d_Ro_sameNumbersBehind_36 : decode b_Ro_sameNumbersBehind 36 = .ok (.getfield 21, 3) := by decide +kernel
theorem d_Ro_sameNumbersBehind_39 : decode b_Ro_sameNumbersBehind 39 = .ok (.iload_n 3, 1) := by decide +kernel
theorem d_Ro_sameNumbersBehind_40 : decode b_Ro_sameNumbersBehind 40 = .ok (.iaload, 1) := by decide +kernel
theorem d_Ro_sameNumbersBehind_41 : decode b_Ro_sameNumbersBehind 41 = .ok (.if_icmp .ne 7, 3) := by decide +kernel
theorem d_Ro_sameNumbersBehind_44 : decode b_Ro_sameNumbersBehind 44 = .ok (.iconst 1, 1) := by decide +kernel
theorem d_Ro_sameNumbersBehind_45 : decode b_Ro_sameNumbersBehind 45 = .ok (.goto 4, 3) := by decide +kernel
theorem d_Ro_sameNumbersBehind_48 : decode b_Ro_sameNumbersBehind 48 = .ok (.iconst 0, 1) := by decide +kernel
theorem d_Ro_sameNumbersBehind_49 : decode b_Ro_sameNumbersBehind 49 = .ok (.ireturn, 1) := by decide +kernel
theorem d_Mt_floorMod_0 : decode b_Mt_floorMod 0 = .ok (.iload_n 0, 1) := by decide +kernel
theorem d_Mt_floorMod_1 : decode b_Mt_floorMod 1 = .ok (.iload_n 1, 1) := by decide +kernel
theorem d_Mt_floorMod_2 : decode b_Mt_floorMod 2 = .ok (.irem, 1) := by decide +kernel
theorem d_Mt_floorMod_3 : decode b_Mt_floorMod 3 = .ok (.istore_n 2, 1) := by decide +kernel
theorem d_Mt_floorMod_4 : decode b_Mt_floorMod 4 = .ok (.iload_n 0, 1) := by decide +kernel
theorem d_Mt_floorMod_5 : decode b_Mt_floorMod 5 = .ok (.iload_n 1, 1) := by decide +kernel
theorem d_Mt_floorMod_6 : decode b_Mt_floorMod 6 = .ok (.ixor, 1) := by decide +kernel
theorem d_Mt_floorMod_7 : decode b_Mt_floorMod 7 = .ok (.ifCond .ge 11, 3) := by decide +kernel
theorem d_Mt_floorMod_10 : decode b_Mt_floorMod 10 = .ok (.iload_n 2, 1) := by decide +kernel
theorem d_Mt_floorMod_11 : decode b_Mt_floorMod 11 = .ok (.ifCond .eq 7, 3) := by decide +kernel
theorem d_Mt_floorMod_14 : decode b_Mt_floorMod 14 = .ok (.iload_n 2, 1) := by decide +kernel
theorem d_Mt_floorMod_15 : decode b_Mt_floorMod 15 = .ok (.iload_n 1, 1) := by decide +kernel
theorem d_Mt_floorMod_16 : decode b_Mt_floorMod 16 = .ok (.iadd, 1) := by decide +kernel
theorem d_Mt_floorMod_17 : decode b_Mt_floorMod 17 = .ok (.ireturn, 1) := by decide +kernel
theorem d_Mt_floorMod_18 : decode b_Mt_floorMod 18 = .ok (.iload_n 2, 1) := by decide +kernel
theorem d_Mt_floorMod_19 : decode b_Mt_floorMod 19 = .ok (.ireturn, 1) := by decide +kernel
theorem d_Mt_floorDiv_0 : decode b_Mt_floorDiv 0 = .ok (.iload_n 0, 1) := by decide +kernel
theorem d_Mt_floorDiv_1 : decode b_Mt_floorDiv 1 = .ok (.iload_n 1, 1) := by decide +kernel
theorem d_Mt_floorDiv_2 : decode b_Mt_floorDiv 2 = .ok (.idiv, 1) := by decide +kernel
theorem d_Mt_floorDiv_3 : decode b_Mt_floorDiv 3 = .ok (.istore_n 2, 1) := by decide +kernel
theorem d_Mt_floorDiv_4 : decode b_Mt_floorDiv 4 = .ok (.iload_n 0, 1) := by decide +kernel
theorem d_Mt_floorDiv_5 : decode b_Mt_floorDiv 5 = .ok (.iload_n 1, 1) := by decide +kernel
theorem d_Mt_floorDiv_6 : decode b_Mt_floorDiv 6 = .ok (.ixor, 1) := by decide +kernel
theorem d_Mt_floorDiv_7 : decode b_Mt_floorDiv 7 = .ok (.ifCond .ge 14, 3) := by decide +kernel
theorem d_Mt_floorDiv_10 : decode b_Mt_floorDiv 10 = .ok (.iload_n 2, 1) := by decide +kernel
theorem d_Mt_floorDiv_11 : decode b_Mt_floorDiv 11 = .ok (.iload_n 1, 1) := by decide +kernel
theorem d_Mt_floorDiv_12 : decode b_Mt_floorDiv 12 = .ok (.imul, 1) := by decide +kernel
theorem d_Mt_floorDiv_13 : decode b_Mt_floorDiv 13 = .ok (.iload_n 0, 1) := by decide +kernel
theorem d_Mt_floorDiv_14 : decode b_Mt_floorDiv 14 = .ok (.if_icmp .eq 7, 3) := by decide +kernel
theorem d_Mt_floorDiv_17 : decode b_Mt_floorDiv 17 = .ok (.iload_n 2, 1) := by decide +kernel
theorem d_Mt_floorDiv_18 : decode b_Mt_floorDiv 18 = .ok (.iconst 1, 1) := by decide +kernel
theorem d_Mt_floorDiv_19 : decode b_Mt_floorDiv 19 = .ok (.isub, 1) := by decide +kernel
theorem d_Mt_floorDiv_20 : decode b_Mt_floorDiv 20 = .ok (.ireturn, 1) := by decide +kernel
theorem d_Mt_floorDiv_21 : decode b_Mt_floorDiv 21 = .ok (.iload_n 2, 1) := by decide +kernel
theorem d_Mt_floorDiv_22 : decode b_Mt_floorDiv 22 = .ok (.ireturn, 1) := by decide +kernel
end
section
theorem d_Mo_init_0 : decode b_Mo_init 0 = .ok (.aload_n 0, 1) := by decide +kernel
theorem d_Mo_init_1 : decode b_Mo_init 1 = .ok (.invokespecial 1, 3) := by decide +kernel
theorem d_Mo_init_4 : decode b_Mo_init 4 = .ok (.aload_n 0, 1) := by decide +kernel
theorem d_Mo_init_5 : decode b_Mo_init 5 = .ok (.bipush 64, 2) := by decide +kernel
theorem d_Mo_init_7 : decode b_Mo_init 7 = .ok (.newarray .int, 2) := by decide +kernel
theorem d_Mo_init_9 : decode b_Mo_init 9 = .ok (.putfield 7, 3) := by decide +kernel
theorem d_Mo_init_12 : decode b_Mo_init 12 = .ok (.aload_n 0, 1) := by decide +kernel
theorem d_Mo_init_13 : decode b_Mo_init 13 = .ok (.sipush 200, 3) := by decide +kernel
theorem d_Mo_init_16 : decode b_Mo_init 16 = .ok (.newarray .int, 2) := by decide +kernel
theorem d_Mo_init_18 : decode b_Mo_init 18 = .ok (.putfield 13, 3) := by decide +kernel
theorem d_Mo_init_21 : decode b_Mo_init 21 = .ok (.aload_n 0, 1) := by decide +kernel
theorem d_Mo_init_22 : decode b_Mo_init 22 = .ok (.sipush 269, 3) := by decide +kernel
theorem d_Mo_init_25 : decode b_Mo_init 25 = .ok (.newarray .int, 2) := by decide +kernel
theorem d_Mo_init_27 : decode b_Mo_init 27 = .ok (.putfield 16, 3) := by decide +kernel
theorem d_Mo_init_30 : decode b_Mo_init 30 = .ok (.aload_n 0, 1) := by decide +kernel
theorem d_Mo_init_31 : decode b_Mo_init 31 = .ok (.sipush 269, 3) := by decide +kernel
theorem d_Mo_init_34 : decode b_Mo_init 34 = .ok (.newarray .int, 2) := by decide +kernel
theorem d_Mo_init_36 : decode b_Mo_init 36 = .ok (.putfield 19, 3) := by decide +kernel
theorem d_Mo_init_39 : decode b_Mo_init 39 = .ok (.aload_n 0, 1) := by decide +kernel
theorem d_Mo_init_40 : decode b_Mo_init 40 = .ok (.ldc 22, 2) := by decide +kernel
theorem d_Mo_init_42 : decode b_Mo_init 42 = .ok (.newarray .int, 2) := by decide +kernel
theorem d_Mo_init_44 : decode b_Mo_init 44 = .ok (.putfield 23, 3) := by decide +kernel
theorem d_Mo_init_47 : decode b_Mo_init 47 = .ok (.aload_n 0, 1) := by decide +kernel
theorem d_Mo_init_48 : decode b_Mo_init 48 = .ok (.sipush 1025, 3) := by decide +kernel
theorem d_Mo_init_51 : decode b_Mo_init 51 = .ok (.newarray .int, 2) := by decide +kernel
theorem d_Mo_init_53 : decode b_Mo_init 53 = .ok (.putfield 26, 3) := by decide +kernel
theorem d_Mo_init_56 : decode b_Mo_init 56 = .ok (.aload_n 0, 1) := by decide +kernel
theorem d_Mo_init_57 : decode b_Mo_init 57 = .ok (.sipush 1025, 3) := by decide +kernel
theorem d_Mo_init_60 : decode b_Mo_init 60 = .ok (.newarray .int, 2) := by decide +kernel
theorem d_Mo_init_62 : decode b_Mo_init 62 = .ok (.putfield 29, 3) := by decide +kernel
theorem d_Mo_init_65 : decode b_Mo_init 65 = .ok (.aload_n 0, 1) := by decide +kernel
theorem d_Mo_init_66 : decode b_Mo_init 66 = .ok (.iconst 4, 1) := by decide +kernel
theorem d_Mo_init_67 : decode b_Mo_init 67 = .ok (.iload_n 1, 1) := by decide +kernel
theorem d_Mo_init_68 : decode b_Mo_init 68 = .ok (.sipush 1021, 3) := by decide +kernel
theorem d_Mo_init_71 : decode b_Mo_init 71 = .ok (.invokestatic 32, 3) := by decide +kernel
theorem d_Mo_init_74 : decode b_Mo_init 74 = .ok (.iadd, 1) := by decide +kernel
theorem d_Mo_init_75 : decode b_Mo_init 75 = .ok (.putfield 36, 3) := by decide +kernel
theorem d_Mo_init_78 : decode b_Mo_init 78 = .ok (.aload_n 0, 1) := by decide +kernel
theorem d_Mo_init_79 : decode b_Mo_init 79 = .ok (.iconst 1, 1) := by decide +kernel
theorem d_Mo_init_80 : decode b_Mo_init 80 = .ok (.iload_n 2, 1) := by decide +kernel
theorem d_Mo_init_81 : decode b_Mo_init 81 = .ok (.bipush 63, 2) := by decide +kernel
theorem d_Mo_init_83 : decode b_Mo_init 83 = .ok (.iand, 1) := by decide +kernel
theorem d_Mo_init_84 : decode b_Mo_init 84 = .ok (.iadd, 1) := by decide +kernel
theorem d_Mo_init_85 : decode b_Mo_init 85 = .ok (.putfield 40, 3) := by decide +kernel
theorem d_Mo_init_88 : decode b_Mo_init 88 = .ok (.return_, 1) := by decide +kernel
theorem d_Mo_modulo_0 : decode b_Mo_modulo 0 = .ok (.iload_n 0, 1) := by decide +kernel
theorem d_Mo_modulo_1 : decode b_Mo_modulo 1 = .ok (.iload_n 1, 1) := by decide +kernel
theorem d_Mo_modulo_2 : decode b_Mo_modulo 2 = .ok (.irem, 1) := by decide +kernel
theorem d_Mo_modulo_3 : decode b_Mo_modulo 3 = .ok (.iload_n 1, 1) := by decide +kernel
theorem d_Mo_modulo_4 : decode b_Mo_modulo 4 = .ok (.iadd, 1) := by decide +kernel
theorem d_Mo_modulo_5 : decode b_Mo_modulo 5 = .ok (.iload_n 1, 1) := by decide +kernel
theorem d_Mo_modulo_6 : decode b_Mo_modulo 6 = .ok (.irem, 1) := by decide +kernel
theorem d_Mo_modulo_7 : decode b_Mo_modulo 7 = .ok (.ireturn, 1) := by decide +kernel
theorem d_Mo_thrown_0 : decode b_Mo_thrown 0 = .ok (.aload_n 0, 1) := by decide +kernel
theorem d_Mo_thrown_1 : decode b_Mo_thrown 1 = .ok (.getfield 43, 3) := by decide +kernel
theorem d_Mo_thrown_4 : decode b_Mo_thrown 4 = .ok (.ireturn, 1) := by decide +kernel
theorem d_Mo_fail_0 : decode b_Mo_fail 0 = .ok (.aload_n 0, 1) := by decide +kernel
theorem d_Mo_fail_1 : decode b_Mo_fail 1 = .ok (.iload_n 1, 1) := by decide +kernel
theorem d_Mo_fail_2 : decode b_Mo_fail 2 = .ok (.putfield 43, 3) := by decide +kernel
theorem d_Mo_fail_5 : decode b_Mo_fail 5 = .ok (.iconst 0, 1) := by decide +kernel
theorem d_Mo_fail_6 : decode b_Mo_fail 6 = .ok (.ireturn, 1) := by decide +kernel
theorem d_Mo_within_0 : decode b_Mo_within 0 = .ok (.iload_n 0, 1) := by decide +kernel
theorem d_Mo_within_1 : decode b_Mo_within 1 = .ok (.iload_n 1, 1) := by decide +kernel
theorem d_Mo_within_2 : decode b_Mo_within 2 = .ok (.if_icmp .lt 12, 3) := by decide +kernel
theorem d_Mo_within_5 : decode b_Mo_within 5 = .ok (.iload_n 0, 1) := by decide +kernel
theorem d_Mo_within_6 : decode b_Mo_within 6 = .ok (.iload_n 2, 1) := by decide +kernel
theorem d_Mo_within_7 : decode b_Mo_within 7 = .ok (.if_icmp .gt 7, 3) := by decide +kernel
theorem d_Mo_within_10 : decode b_Mo_within 10 = .ok (.iconst 1, 1) := by decide +kernel
theorem d_Mo_within_11 : decode b_Mo_within 11 = .ok (.goto 4, 3) := by decide +kernel
theorem d_Mo_within_14 : decode b_Mo_within 14 = .ok (.iconst 0, 1) := by decide +kernel
theorem d_Mo_within_15 : decode b_Mo_within 15 = .ok (.ireturn, 1) := by decide +kernel
theorem d_Mo_slot_0 : decode b_Mo_slot 0 = .ok (.iload_n 0, 1) := by decide +kernel
theorem d_Mo_slot_1 : decode b_Mo_slot 1 = .ok (.sipush 1025, 3) := by decide +kernel
theorem d_Mo_slot_4 : decode b_Mo_slot 4 = .ok (.irem, 1) := by decide +kernel
theorem d_Mo_slot_5 : decode b_Mo_slot 5 = .ok (.ireturn, 1) := by decide +kernel
theorem d_Mo_program_0 : decode b_Mo_program 0 = .ok (.aload_n 0, 1) := by decide +kernel
theorem d_Mo_program_1 : decode b_Mo_program 1 = .ok (.iconst 0, 1) := by decide +kernel
theorem d_Mo_program_2 : decode b_Mo_program 2 = .ok (.putfield 43, 3) := by decide +kernel
theorem d_Mo_program_5 : decode b_Mo_program 5 = .ok (.iload_n 1, 1) := by decide +kernel
theorem d_Mo_program_6 : decode b_Mo_program 6 = .ok (.iconst 0, 1) := by decide +kernel
theorem d_Mo_program_7 : decode b_Mo_program 7 = .ok (.bipush 63, 2) := by decide +kernel
theorem d_Mo_program_9 : decode b_Mo_program 9 = .ok (.invokestatic 46, 3) := by decide +kernel
theorem d_Mo_program_12 : decode b_Mo_program 12 = .ok (.ifCond .ne 9, 3) := by decide +kernel
theorem d_Mo_program_15 : decode b_Mo_program 15 = .ok (.aload_n 0, 1) := by decide +kernel
theorem d_Mo_program_16 : decode b_Mo_program 16 = .ok (.iconst 1, 1) := by decide +kernel
theorem d_Mo_program_17 : decode b_Mo_program 17 = .ok (.invokevirtual 50, 3) := by decide +kernel
theorem d_Mo_program_20 : decode b_Mo_program 20 = .ok (.ireturn, 1) := by decide +kernel
theorem d_Mo_program_21 : decode b_Mo_program 21 = .ok (.aload_n 0, 1) := by decide +kernel
theorem d_Mo_program_22 : decode b_Mo_program 22 = .ok (.getfield 7, 3) := by decide +kernel
theorem d_Mo_program_25 : decode b_Mo_program 25 = .ok (.iload_n 1, 1) := by decide +kernel
theorem d_Mo_program_26 : decode b_Mo_program 26 = .ok (.iaload, 1) := by decide +kernel
theorem d_Mo_program_27 : decode b_Mo_program 27 = .ok (.istore_n 3, 1) := by decide +kernel
theorem d_Mo_program_28 : decode b_Mo_program 28 = .ok (.aload_n 0, 1) := by decide +kernel
theorem d_Mo_program_29 : decode b_Mo_program 29 = .ok (.getfield 7, 3) := by decide +kernel
theorem d_Mo_program_32 : decode b_Mo_program 32 = .ok (.iload_n 1, 1) := by decide +kernel
theorem d_Mo_program_33 : decode b_Mo_program 33 = .ok (.iload_n 2, 1) := by decide +kernel
theorem d_Mo_program_34 : decode b_Mo_program 34 = .ok (.iastore, 1) := by decide +kernel
theorem d_Mo_program_35 : decode b_Mo_program 35 = .ok (.iload_n 3, 1) := by decide +kernel
theorem d_Mo_program_36 : decode b_Mo_program 36 = .ok (.ireturn, 1) := by decide +kernel
theorem d_Mo_input_0 : decode b_Mo_input 0 = .ok (.aload_n 0, 1) := by decide +kernel
theorem d_Mo_input_1 : decode b_Mo_input 1 = .ok (.iconst 0, 1) := by decide +kernel
theorem d_Mo_input_2 : decode b_Mo_input 2 = .ok (.putfield 43, 3) := by decide +kernel
theorem d_Mo_input_5 : decode b_Mo_input 5 = .ok (.aload_n 0, 1) := by decide +kernel
theorem d_Mo_input_6 : decode b_Mo_input 6 = .ok (.getfield 54, 3) := by decide +kernel
theorem d_Mo_input_9 : decode b_Mo_input 9 = .ok (.sipush 200, 3) := by decide +kernel
theorem d_Mo_input_12 : decode b_Mo_input 12 = .ok (.if_icmp .ne 9, 3) := by decide +kernel
theorem d_Mo_input_15 : decode b_Mo_input 15 = .ok (.aload_n 0, 1) := by decide +kernel
theorem d_Mo_input_16 : decode b_Mo_input 16 = .ok (.iconst 1, 1) := by decide +kernel
theorem d_Mo_input_17 : decode b_Mo_input 17 = .ok (.invokevirtual 50, 3) := by decide +kernel
theorem d_Mo_input_20 : decode b_Mo_input 20 = .ok (.ireturn, 1) := by decide +kernel
theorem d_Mo_input_21 : decode b_Mo_input 21 = .ok (.aload_n 0, 1) := by decide +kernel
theorem d_Mo_input_22 : decode b_Mo_input 22 = .ok (.getfield 13, 3) := by decide +kernel
theorem d_Mo_input_25 : decode b_Mo_input 25 = .ok (.aload_n 0, 1) := by decide +kernel
theorem d_Mo_input_26 : decode b_Mo_input 26 = .ok (.getfield 54, 3) := by decide +kernel
theorem d_Mo_input_29 : decode b_Mo_input 29 = .ok (.iload_n 1, 1) := by decide +kernel
theorem d_Mo_input_30 : decode b_Mo_input 30 = .ok (.iastore, 1) := by decide +kernel
theorem d_Mo_input_31 : decode b_Mo_input 31 = .ok (.aload_n 0, 1) := by decide +kernel
theorem d_Mo_input_32 : decode b_Mo_input 32 = .ok (.dup, 1) := by decide +kernel
theorem d_Mo_input_33 : decode b_Mo_input 33 = .ok (.getfield 54, 3) := by decide +kernel
theorem d_Mo_input_36 : decode b_Mo_input 36 = .ok (.iconst 1, 1) := by decide +kernel
theorem d_Mo_input_37 : decode b_Mo_input 37 = .ok (.iadd, 1) := by decide +kernel
theorem d_Mo_input_38 : decode b_Mo_input 38 = .ok (.putfield 54, 3) := by decide +kernel
theorem d_Mo_input_41 : decode b_Mo_input 41 = .ok (.aload_n 0, 1) := by decide +kernel
theorem d_Mo_input_42 : decode b_Mo_input 42 = .ok (.getfield 54, 3) := by decide +kernel
theorem d_Mo_input_45 : decode b_Mo_input 45 = .ok (.aload_n 0, 1) := by decide +kernel
theorem d_Mo_input_46 : decode b_Mo_input 46 = .ok (.getfield 16, 3) := by decide +kernel
theorem d_Mo_input_49 : decode b_Mo_input 49 = .ok (.sipush 265, 3) := by decide +kernel
theorem d_Mo_input_52 : decode b_Mo_input 52 = .ok (.iaload, 1) := by decide +kernel
theorem d_Mo_input_53 : decode b_Mo_input 53 = .ok (.isub, 1) := by decide +kernel
theorem d_Mo_input_54 : decode b_Mo_input 54 = .ok (.ireturn, 1) := by decide +kernel
theorem d_Mo_save_0 : decode b_Mo_save 0 = .ok (.iconst 0, 1) := by decide +kernel
theorem d_Mo_save_1 : decode b_Mo_save 1 = .ok (.istore_n 1, 1) := by decide +kernel
theorem d_Mo_save_2 : decode b_Mo_save 2 = .ok (.iload_n 1, 1) := by decide +kernel
theorem d_Mo_save_3 : decode b_Mo_save 3 = .ok (.sipush 269, 3) := by decide +kernel
theorem d_Mo_save_6 : decode b_Mo_save 6 = .ok (.if_icmp .ge 33, 3) := by decide +kernel
theorem d_Mo_save_9 : decode b_Mo_save 9 = .ok (.aload_n 0, 1) := by decide +kernel
theorem d_Mo_save_10 : decode b_Mo_save 10 = .ok (.getfield 23, 3) := by decide +kernel
theorem d_Mo_save_13 : decode b_Mo_save 13 = .ok (.sipush 269, 3) := by decide +kernel
theorem d_Mo_save_16 : decode b_Mo_save 16 = .ok (.aload_n 0, 1) := by decide +kernel
theorem d_Mo_save_17 : decode b_Mo_save 17 = .ok (.getfield 57, 3) := by decide +kernel
theorem d_Mo_save_20 : decode b_Mo_save 20 = .ok (.invokestatic 60, 3) := by decide +kernel
theorem d_Mo_save_23 : decode b_Mo_save 23 = .ok (.imul, 1) := by decide +kernel
theorem d_Mo_save_24 : decode b_Mo_save 24 = .ok (.iload_n 1, 1) := by decide +kernel
theorem d_Mo_save_25 : decode b_Mo_save 25 = .ok (.iadd, 1) := by decide +kernel
theorem d_Mo_save_26 : decode b_Mo_save 26 = .ok (.aload_n 0, 1) := by decide +kernel
theorem d_Mo_save_27 : decode b_Mo_save 27 = .ok (.getfield 16, 3) := by decide +kernel
theorem d_Mo_save_30 : decode b_Mo_save 30 = .ok (.iload_n 1, 1) := by decide +kernel
theorem d_Mo_save_31 : decode b_Mo_save 31 = .ok (.iaload, 1) := by decide +kernel
theorem d_Mo_save_32 : decode b_Mo_save 32 = .ok (.iastore, 1) := by decide +kernel
theorem d_Mo_save_33 : decode b_Mo_save 33 = .ok (.iinc 1 1, 3) := by decide +kernel
theorem d_Mo_save_36 : decode b_Mo_save 36 = .ok (.goto (-34), 3) := by decide +kernel
theorem d_Mo_save_39 : decode b_Mo_save 39 = .ok (.return_, 1) := by decide +kernel
theorem d_Mo_stateAt_0 : decode b_Mo_stateAt 0 = .ok (.iload_n 1, 1) := by decide +kernel
theorem d_Mo_stateAt_1 : decode b_Mo_stateAt 1 = .ok (.aload_n 0, 1) := by decide +kernel
theorem d_Mo_stateAt_2 : decode b_Mo_stateAt 2 = .ok (.getfield 57, 3) := by decide +kernel
theorem d_Mo_stateAt_5 : decode b_Mo_stateAt 5 = .ok (.if_icmp .ne 12, 3) := by decide +kernel
theorem d_Mo_stateAt_8 : decode b_Mo_stateAt 8 = .ok (.aload_n 0, 1) := by decide +kernel
theorem d_Mo_stateAt_9 : decode b_Mo_stateAt 9 = .ok (.getfield 16, 3) := by decide +kernel
theorem d_Mo_stateAt_12 : decode b_Mo_stateAt 12 = .ok (.iload_n 2, 1) := by decide +kernel
theorem d_Mo_stateAt_13 : decode b_Mo_stateAt 13 = .ok (.iaload, 1) := by decide +kernel
theorem d_Mo_stateAt_14 : decode b_Mo_stateAt 14 = .ok (.goto 18, 3) := by decide +kernel
theorem d_Mo_stateAt_17 : decode b_Mo_stateAt 17 = .ok (.aload_n 0, 1) := by decide +kernel
theorem d_Mo_stateAt_18 : decode b_Mo_stateAt 18 = .ok (.getfield 23, 3) := by decide +kernel
theorem d_Mo_stateAt_21 : decode b_Mo_stateAt 21 = .ok (.sipush 269, 3) := by decide +kernel
theorem d_Mo_stateAt_24 : decode b_Mo_stateAt 24 = .ok (.iload_n 1, 1) := by decide +kernel
theorem d_Mo_stateAt_25 : decode b_Mo_stateAt 25 = .ok (.invokestatic 60, 3) := by decide +kernel
theorem d_Mo_stateAt_28 : decode b_Mo_stateAt 28 = .ok (.imul, 1) := by decide +kernel
theorem d_Mo_stateAt_29 : decode b_Mo_stateAt 29 = .ok (.iload_n 2, 1) := by decide +kernel
theorem d_Mo_stateAt_30 : decode b_Mo_stateAt 30 = .ok (.iadd, 1) := by decide +kernel
theorem d_Mo_stateAt_31 : decode b_Mo_stateAt 31 = .ok (.iaload, 1) := by decide +kernel
theorem d_Mo_stateAt_32 : decode b_Mo_stateAt 32 = .ok (.ireturn, 1) := by decide +kernel
theorem d_Mo_poke_0 : decode b_Mo_poke 0 = .ok (.aload_n 0, 1) := by decide +kernel
theorem d_Mo_poke_1 : decode b_Mo_poke 1 = .ok (.iconst 0, 1) := by decide +kernel
theorem d_Mo_poke_2 : decode b_Mo_poke 2 = .ok (.putfield 43, 3) := by decide +kernel
theorem d_Mo_poke_5 : decode b_Mo_poke 5 = .ok (.iload_n 1, 1) := by decide +kernel
theorem d_Mo_poke_6 : decode b_Mo_poke 6 = .ok (.iconst 0, 1) := by decide +kernel
theorem d_Mo_poke_7 : decode b_Mo_poke 7 = .ok (.sipush 263, 3) := by decide +kernel
theorem d_Mo_poke_10 : decode b_Mo_poke 10 = .ok (.invokestatic 46, 3) := by decide +kernel
theorem d_Mo_poke_13 : decode b_Mo_poke 13 = .ok (.ifCond .ne 9, 3) := by decide +kernel
theorem d_Mo_poke_16 : decode b_Mo_poke 16 = .ok (.aload_n 0, 1) := by decide +kernel
theorem d_Mo_poke_17 : decode b_Mo_poke 17 = .ok (.iconst 1, 1) := by decide +kernel
theorem d_Mo_poke_18 : decode b_Mo_poke 18 = .ok (.invokevirtual 50, 3) := by decide +kernel
theorem d_Mo_poke_21 : decode b_Mo_poke 21 = .ok (.ireturn, 1) := by decide +kernel
theorem d_Mo_poke_22 : decode b_Mo_poke 22 = .ok (.aload_n 0, 1) := by decide +kernel
theorem d_Mo_poke_23 : decode b_Mo_poke 23 = .ok (.getfield 16, 3) := by decide +kernel
theorem d_Mo_poke_26 : decode b_Mo_poke 26 = .ok (.iload_n 1, 1) := by decide +kernel
theorem d_Mo_poke_27 : decode b_Mo_poke 27 = .ok (.iaload, 1) := by decide +kernel
theorem d_Mo_poke_28 : decode b_Mo_poke 28 = .ok (.istore_n 3, 1) := by decide +kernel
theorem d_Mo_poke_29 : decode b_Mo_poke 29 = .ok (.aload_n 0, 1) := by decide +kernel
theorem d_Mo_poke_30 : decode b_Mo_poke 30 = .ok (.getfield 16, 3) := by decide +kernel
theorem d_Mo_poke_33 : decode b_Mo_poke 33 = .ok (.iload_n 1, 1) := by decide +kernel
theorem d_Mo_poke_34 : decode b_Mo_poke 34 = .ok (.iload_n 2, 1) := by decide +kernel
theorem d_Mo_poke_35 : decode b_Mo_poke 35 = .ok (.iastore, 1) := by decide +kernel
theorem d_Mo_poke_36 : decode b_Mo_poke 36 = .ok (.aload_n 0, 1) := by decide +kernel
theorem d_Mo_poke_37 : decode b_Mo_poke 37 = .ok (.dup, 1) := by decide +kernel
theorem d_Mo_poke_38 : decode b_Mo_poke 38 = .ok (.getfield 63, 3) := by decide +kernel
theorem d_Mo_poke_41 : decode b_Mo_poke 41 = .ok (.aload_n 0, 1) := by decide +kernel
theorem d_Mo_poke_42 : decode b_Mo_poke 42 = .ok (.getfield 57, 3) := by decide +kernel
theorem d_Mo_poke_45 : decode b_Mo_poke 45 = .ok (.aload_n 0, 1) := by decide +kernel
theorem d_Mo_poke_46 : decode b_Mo_poke 46 = .ok (.getfield 66, 3) := by decide +kernel
theorem d_Mo_poke_49 : decode b_Mo_poke 49 = .ok (.isub, 1) := by decide +kernel
theorem d_Mo_poke_50 : decode b_Mo_poke 50 = .ok (.iadd, 1) := by decide +kernel
theorem d_Mo_poke_51 : decode b_Mo_poke 51 = .ok (.putfield 63, 3) := by decide +kernel
theorem d_Mo_poke_54 : decode b_Mo_poke 54 = .ok (.aload_n 0, 1) := by decide +kernel
theorem d_Mo_poke_55 : decode b_Mo_poke 55 = .ok (.aload_n 0, 1) := by decide +kernel
theorem d_Mo_poke_56 : decode b_Mo_poke 56 = .ok (.getfield 57, 3) := by decide +kernel
theorem d_Mo_poke_59 : decode b_Mo_poke 59 = .ok (.putfield 66, 3) := by decide +kernel
theorem d_Mo_poke_62 : decode b_Mo_poke 62 = .ok (.iload_n 3, 1) := by decide +kernel
theorem d_Mo_poke_63 : decode b_Mo_poke 63 = .ok (.ireturn, 1) := by decide +kernel
theorem d_Mo_kindOf_0 : decode b_Mo_kindOf 0 = .ok (.iload_n 0, 1) := by decide +kernel
theorem d_Mo_kindOf_1 : decode b_Mo_kindOf 1 = .ok (.bipush 28, 2) := by decide +kernel
theorem d_Mo_kindOf_3 : decode b_Mo_kindOf 3 = .ok (.iushr, 1) := by decide +kernel
theorem d_Mo_kindOf_4 : decode b_Mo_kindOf 4 = .ok (.ireturn, 1) := by decide +kernel
theorem d_Mo_result_0 : decode b_Mo_result 0 = .ok (.iload_n 0, 1) := by decide +kernel
theorem d_Mo_result_1 : decode b_Mo_result 1 = .ok (.tableswitch 84 1 11 #[59, 61, 65, 69, 84, 84, 84, 84, 84, 73, 80], 59) := by decide +kernel
theorem d_Mo_result_60 : decode b_Mo_result 60 = .ok (.iload_n 3, 1) := by decide +kernel
theorem d_Mo_result_61 : decode b_Mo_result 61 = .ok (.ireturn, 1) := by decide +kernel
theorem d_Mo_result_62 : decode b_Mo_result 62 = .ok (.iload_n 1, 1) := by decide +kernel
theorem d_Mo_result_63 : decode b_Mo_result 63 = .ok (.iload_n 2, 1) := by decide +kernel
theorem d_Mo_result_64 : decode b_Mo_result 64 = .ok (.iadd, 1) := by decide +kernel
theorem d_Mo_result_65 : decode b_Mo_result 65 = .ok (.ireturn, 1) := by decide +kernel
theorem d_Mo_result_66 : decode b_Mo_result 66 = .ok (.iload_n 1, 1) := by decide +kernel
theorem d_Mo_result_67 : decode b_Mo_result 67 = .ok (.iload_n 2, 1) := by decide +kernel
theorem d_Mo_result_68 : decode b_Mo_result 68 = .ok (.isub, 1) := by decide +kernel
theorem d_Mo_result_69 : decode b_Mo_result 69 = .ok (.ireturn, 1) := by decide +kernel
theorem d_Mo_result_70 : decode b_Mo_result 70 = .ok (.iload_n 1, 1) := by decide +kernel
theorem d_Mo_result_71 : decode b_Mo_result 71 = .ok (.iload_n 2, 1) := by decide +kernel
theorem d_Mo_result_72 : decode b_Mo_result 72 = .ok (.ixor, 1) := by decide +kernel
theorem d_Mo_result_73 : decode b_Mo_result 73 = .ok (.ireturn, 1) := by decide +kernel
theorem d_Mo_result_74 : decode b_Mo_result 74 = .ok (.iload_n 1, 1) := by decide +kernel
theorem d_Mo_result_75 : decode b_Mo_result 75 = .ok (.iload_n 2, 1) := by decide +kernel
theorem d_Mo_result_76 : decode b_Mo_result 76 = .ok (.bipush 31, 2) := by decide +kernel
theorem d_Mo_result_78 : decode b_Mo_result 78 = .ok (.iand, 1) := by decide +kernel
theorem d_Mo_result_79 : decode b_Mo_result 79 = .ok (.iushr, 1) := by decide +kernel
theorem d_Mo_result_80 : decode b_Mo_result 80 = .ok (.ireturn, 1) := by decide +kernel
theorem d_Mo_result_81 : decode b_Mo_result 81 = .ok (.iload_n 1, 1) := by decide +kernel
theorem d_Mo_result_82 : decode b_Mo_result 82 = .ok (.iload_n 2, 1) := by decide +kernel
theorem d_Mo_result_83 : decode b_Mo_result 83 = .ok (.imul, 1) := by decide +kernel
theorem d_Mo_result_84 : decode b_Mo_result 84 = .ok (.ireturn, 1) := by decide +kernel
theorem d_Mo_result_85 : decode b_Mo_result 85 = .ok (.iload_n 1, 1) := by decide +kernel
theorem d_Mo_result_86 : decode b_Mo_result 86 = .ok (.iload_n 2, 1) := by decide +kernel
theorem d_Mo_result_87 : decode b_Mo_result 87 = .ok (.if_icmp .ge 7, 3) := by decide +kernel
theorem d_Mo_result_90 : decode b_Mo_result 90 = .ok (.iconst 1, 1) := by decide +kernel
theorem d_Mo_result_91 : decode b_Mo_result 91 = .ok (.goto 4, 3) := by decide +kernel
theorem d_Mo_result_94 : decode b_Mo_result 94 = .ok (.iconst 0, 1) := by decide +kernel
theorem d_Mo_result_95 : decode b_Mo_result 95 = .ok (.ireturn, 1) := by decide +kernel
theorem d_Mo_advance_0 : decode b_Mo_advance 0 = .ok (.aload_n 0, 1) := by decide +kernel
theorem d_Mo_advance_1 : decode b_Mo_advance 1 = .ok (.getfield 7, 3) := by decide +kernel
theorem d_Mo_advance_4 : decode b_Mo_advance 4 = .ok (.aload_n 1, 1) := by decide +kernel
theorem d_Mo_advance_5 : decode b_Mo_advance 5 = .ok (.sipush 264, 3) := by decide +kernel
theorem d_Mo_advance_8 : decode b_Mo_advance 8 = .ok (.iaload, 1) := by decide +kernel
theorem d_Mo_advance_9 : decode b_Mo_advance 9 = .ok (.iaload, 1) := by decide +kernel
theorem d_Mo_advance_10 : decode b_Mo_advance 10 = .ok (.istore_n 3, 1) := by decide +kernel
theorem d_Mo_advance_11 : decode b_Mo_advance 11 = .ok (.iload_n 3, 1) := by decide +kernel
theorem d_Mo_advance_12 : decode b_Mo_advance 12 = .ok (.invokestatic 69, 3) := by decide +kernel
theorem d_Mo_advance_15 : decode b_Mo_advance 15 = .ok (.istore 4, 2) := by decide +kernel
theorem d_Mo_advance_17 : decode b_Mo_advance 17 = .ok (.iload_n 3, 1) := by decide +kernel
theorem d_Mo_advance_18 : decode b_Mo_advance 18 = .ok (.bipush 24, 2) := by decide +kernel
theorem d_Mo_advance_20 : decode b_Mo_advance 20 = .ok (.ishr, 1) := by decide +kernel
theorem d_Mo_advance_21 : decode b_Mo_advance 21 = .ok (.bipush 7, 2) := by decide +kernel
theorem d_Mo_advance_23 : decode b_Mo_advance 23 = .ok (.iand, 1) := by decide +kernel
theorem d_Mo_advance_24 : decode b_Mo_advance 24 = .ok (.istore 5, 2) := by decide +kernel
theorem d_Mo_advance_26 : decode b_Mo_advance 26 = .ok (.iload_n 3, 1) := by decide +kernel
theorem d_Mo_advance_27 : decode b_Mo_advance 27 = .ok (.bipush 20, 2) := by decide +kernel
theorem d_Mo_advance_29 : decode b_Mo_advance 29 = .ok (.ishr, 1) := by decide +kernel
theorem d_Mo_advance_30 : decode b_Mo_advance 30 = .ok (.bipush 7, 2) := by decide +kernel
theorem d_Mo_advance_32 : decode b_Mo_advance 32 = .ok (.iand, 1) := by decide +kernel
theorem d_Mo_advance_33 : decode b_Mo_advance 33 = .ok (.istore 6, 2) := by decide +kernel
theorem d_Mo_advance_35 : decode b_Mo_advance 35 = .ok (.iload_n 3, 1) := by decide +kernel
theorem d_Mo_advance_36 : decode b_Mo_advance 36 = .ok (.bipush 16, 2) := by decide +kernel
theorem d_Mo_advance_38 : decode b_Mo_advance 38 = .ok (.ishr, 1) := by decide +kernel
theorem d_Mo_advance_39 : decode b_Mo_advance 39 = .ok (.bipush 7, 2) := by decide +kernel
theorem d_Mo_advance_41 : decode b_Mo_advance 41 = .ok (.iand, 1) := by decide +kernel
theorem d_Mo_advance_42 : decode b_Mo_advance 42 = .ok (.istore 7, 2) := by decide +kernel
theorem d_Mo_advance_44 : decode b_Mo_advance 44 = .ok (.iload_n 3, 1) := by decide +kernel
theorem d_Mo_advance_45 : decode b_Mo_advance 45 = .ok (.bipush 16, 2) := by decide +kernel
theorem d_Mo_advance_47 : decode b_Mo_advance 47 = .ok (.ishl, 1) := by decide +kernel
theorem d_Mo_advance_48 : decode b_Mo_advance 48 = .ok (.bipush 16, 2) := by decide +kernel
theorem d_Mo_advance_50 : decode b_Mo_advance 50 = .ok (.ishr, 1) := by decide +kernel
theorem d_Mo_advance_51 : decode b_Mo_advance 51 = .ok (.istore 8, 2) := by decide +kernel
theorem d_Mo_advance_53 : decode b_Mo_advance 53 = .ok (.aload_n 0, 1) := by decide +kernel
theorem d_Mo_advance_54 : decode b_Mo_advance 54 = .ok (.iconst (-1), 1) := by decide +kernel
theorem d_Mo_advance_55 : decode b_Mo_advance 55 = .ok (.putfield 72, 3) := by decide +kernel
theorem d_Mo_advance_58 : decode b_Mo_advance 58 = .ok (.iload 4, 2) := by decide +kernel
theorem d_Mo_advance_60 : decode b_Mo_advance 60 = .ok (.bipush 8, 2) := by decide +kernel
theorem d_Mo_advance_62 : decode b_Mo_advance 62 = .ok (.if_icmp .ne 14, 3) := by decide +kernel
theorem d_Mo_advance_65 : decode b_Mo_advance 65 = .ok (.aload_n 1, 1) := by decide +kernel
theorem d_Mo_advance_66 : decode b_Mo_advance 66 = .ok (.sipush 265, 3) := by decide +kernel
theorem d_Mo_advance_69 : decode b_Mo_advance 69 = .ok (.iaload, 1) := by decide +kernel
theorem d_Mo_advance_70 : decode b_Mo_advance 70 = .ok (.iload_n 2, 1) := by decide +kernel
theorem d_Mo_advance_71 : decode b_Mo_advance 71 = .ok (.if_icmp .lt 5, 3) := by decide +kernel
theorem d_Mo_advance_74 : decode b_Mo_advance 74 = .ok (.iconst 0, 1) := by decide +kernel
theorem d_Mo_advance_75 : decode b_Mo_advance 75 = .ok (.ireturn, 1) := by decide +kernel
theorem d_Mo_advance_76 : decode b_Mo_advance 76 = .ok (.iload 4, 2) := by decide +kernel
theorem d_Mo_advance_78 : decode b_Mo_advance 78 = .ok (.ifCond .eq 10, 3) := by decide +kernel
theorem d_Mo_advance_81 : decode b_Mo_advance 81 = .ok (.iload 4, 2) := by decide +kernel
theorem d_Mo_advance_83 : decode b_Mo_advance 83 = .ok (.bipush 12, 2) := by decide +kernel
theorem d_Mo_advance_85 : decode b_Mo_advance 85 = .ok (.if_icmp .le 20, 3) := by decide +kernel
theorem d_Mo_advance_88 : decode b_Mo_advance 88 = .ok (.aload_n 1, 1) := by decide +kernel
theorem d_Mo_advance_89 : decode b_Mo_advance 89 = .ok (.sipush 268, 3) := by decide +kernel
theorem d_Mo_advance_92 : decode b_Mo_advance 92 = .ok (.iload 4, 2) := by decide +kernel
theorem d_Mo_advance_94 : decode b_Mo_advance 94 = .ok (.ifCond .ne 7, 3) := by decide +kernel
theorem d_Mo_advance_97 : decode b_Mo_advance 97 = .ok (.iconst 1, 1) := by decide +kernel
theorem d_Mo_advance_98 : decode b_Mo_advance 98 = .ok (.goto 4, 3) := by decide +kernel
theorem d_Mo_advance_101 : decode b_Mo_advance 101 = .ok (.iconst 2, 1) := by decide +kernel
theorem d_Mo_advance_102 : decode b_Mo_advance 102 = .ok (.iastore, 1) := by decide +kernel
theorem d_Mo_advance_103 : decode b_Mo_advance 103 = .ok (.iconst 1, 1) := by decide +kernel
theorem d_Mo_advance_104 : decode b_Mo_advance 104 = .ok (.ireturn, 1) := by decide +kernel
theorem d_Mo_advance_105 : decode b_Mo_advance 105 = .ok (.aload_n 1, 1) := by decide +kernel
theorem d_Mo_advance_106 : decode b_Mo_advance 106 = .ok (.sipush 264, 3) := by decide +kernel
theorem d_Mo_advance_109 : decode b_Mo_advance 109 = .ok (.iaload, 1) := by decide +kernel
theorem d_Mo_advance_110 : decode b_Mo_advance 110 = .ok (.iconst 1, 1) := by decide +kernel
theorem d_Mo_advance_111 : decode b_Mo_advance 111 = .ok (.iadd, 1) := by decide +kernel
theorem d_Mo_advance_112 : decode b_Mo_advance 112 = .ok (.bipush 63, 2) := by decide +kernel
theorem d_Mo_advance_114 : decode b_Mo_advance 114 = .ok (.iand, 1) := by decide +kernel
theorem d_Mo_advance_115 : decode b_Mo_advance 115 = .ok (.istore 9, 2) := by decide +kernel
theorem d_Mo_advance_117 : decode b_Mo_advance 117 = .ok (.iload 4, 2) := by decide +kernel
theorem d_Mo_advance_119 : decode b_Mo_advance 119 = .ok (.bipush 7, 2) := by decide +kernel
theorem d_Mo_advance_121 : decode b_Mo_advance 121 = .ok (.if_icmp .ne 31, 3) := by decide +kernel
theorem d_Mo_advance_124 : decode b_Mo_advance 124 = .ok (.aload_n 1, 1) := by decide +kernel
theorem d_Mo_advance_125 : decode b_Mo_advance 125 = .ok (.iload 5, 2) := by decide +kernel
theorem d_Mo_advance_127 : decode b_Mo_advance 127 = .ok (.iaload, 1) := by decide +kernel
theorem d_Mo_advance_128 : decode b_Mo_advance 128 = .ok (.ifCond .eq 17, 3) := by decide +kernel
theorem d_Mo_advance_131 : decode b_Mo_advance 131 = .ok (.aload_n 1, 1) := by decide +kernel
theorem d_Mo_advance_132 : decode b_Mo_advance 132 = .ok (.sipush 264, 3) := by decide +kernel
theorem d_Mo_advance_135 : decode b_Mo_advance 135 = .ok (.iaload, 1) := by decide +kernel
theorem d_Mo_advance_136 : decode b_Mo_advance 136 = .ok (.iload 8, 2) := by decide +kernel
theorem d_Mo_advance_138 : decode b_Mo_advance 138 = .ok (.iadd, 1) := by decide +kernel
theorem d_Mo_advance_139 : decode b_Mo_advance 139 = .ok (.bipush 63, 2) := by decide +kernel
theorem d_Mo_advance_141 : decode b_Mo_advance 141 = .ok (.iand, 1) := by decide +kernel
theorem d_Mo_advance_142 : decode b_Mo_advance 142 = .ok (.goto 5, 3) := by decide +kernel
theorem d_Mo_advance_145 : decode b_Mo_advance 145 = .ok (.iload 9, 2) := by decide +kernel
theorem d_Mo_advance_147 : decode b_Mo_advance 147 = .ok (.istore 9, 2) := by decide +kernel
theorem d_Mo_advance_149 : decode b_Mo_advance 149 = .ok (.goto 172, 3) := by decide +kernel
theorem d_Mo_advance_152 : decode b_Mo_advance 152 = .ok (.iload 4, 2) := by decide +kernel
theorem d_Mo_advance_154 : decode b_Mo_advance 154 = .ok (.bipush 9, 2) := by decide +kernel
theorem d_Mo_advance_156 : decode b_Mo_advance 156 = .ok (.if_icmp .ne 33, 3) := by decide +kernel
theorem d_Mo_advance_159 : decode b_Mo_advance 159 = .ok (.aload_n 1, 1) := by decide +kernel
theorem d_Mo_advance_160 : decode b_Mo_advance 160 = .ok (.sipush 266, 3) := by decide +kernel
theorem d_Mo_advance_163 : decode b_Mo_advance 163 = .ok (.dup2, 1) := by decide +kernel
theorem d_Mo_advance_164 : decode b_Mo_advance 164 = .ok (.iaload, 1) := by decide +kernel
theorem d_Mo_advance_165 : decode b_Mo_advance 165 = .ok (.iconst 1, 1) := by decide +kernel
theorem d_Mo_advance_166 : decode b_Mo_advance 166 = .ok (.iadd, 1) := by decide +kernel
theorem d_Mo_advance_167 : decode b_Mo_advance 167 = .ok (.iastore, 1) := by decide +kernel
theorem d_Mo_advance_168 : decode b_Mo_advance 168 = .ok (.aload_n 1, 1) := by decide +kernel
theorem d_Mo_advance_169 : decode b_Mo_advance 169 = .ok (.sipush 267, 3) := by decide +kernel
theorem d_Mo_advance_172 : decode b_Mo_advance 172 = .ok (.bipush 31, 2) := by decide +kernel
theorem d_Mo_advance_174 : decode b_Mo_advance 174 = .ok (.aload_n 1, 1) := by decide +kernel
theorem d_Mo_advance_175 : decode b_Mo_advance 175 = .ok (.sipush 267, 3) := by decide +kernel
theorem d_Mo_advance_178 : decode b_Mo_advance 178 = .ok (.iaload, 1) := by decide +kernel
theorem d_Mo_advance_179 : decode b_Mo_advance 179 = .ok (.imul, 1) := by decide +kernel
theorem d_Mo_advance_180 : decode b_Mo_advance 180 = .ok (.aload_n 1, 1) := by decide +kernel
theorem d_Mo_advance_181 : decode b_Mo_advance 181 = .ok (.iload 5, 2) := by decide +kernel
theorem d_Mo_advance_183 : decode b_Mo_advance 183 = .ok (.iaload, 1) := by decide +kernel
theorem d_Mo_advance_184 : decode b_Mo_advance 184 = .ok (.iadd, 1) := by decide +kernel
theorem d_Mo_advance_185 : decode b_Mo_advance 185 = .ok (.iastore, 1) := by decide +kernel
theorem d_Mo_advance_186 : decode b_Mo_advance 186 = .ok (.goto 135, 3) := by decide +kernel
theorem d_Mo_advance_189 : decode b_Mo_advance 189 = .ok (.iload 4, 2) := by decide +kernel
theorem d_Mo_advance_191 : decode b_Mo_advance 191 = .ok (.bipush 6, 2) := by decide +kernel
theorem d_Mo_advance_193 : decode b_Mo_advance 193 = .ok (.if_icmp .ne 34, 3) := by decide +kernel
theorem d_Mo_advance_196 : decode b_Mo_advance 196 = .ok (.aload_n 0, 1) := by decide +kernel
theorem d_Mo_advance_197 : decode b_Mo_advance 197 = .ok (.bipush 8, 2) := by decide +kernel
theorem d_Mo_advance_199 : decode b_Mo_advance 199 = .ok (.aload_n 1, 1) := by decide +kernel
theorem d_Mo_advance_200 : decode b_Mo_advance 200 = .ok (.iload 6, 2) := by decide +kernel
theorem d_Mo_advance_202 : decode b_Mo_advance 202 = .ok (.iaload, 1) := by decide +kernel
theorem d_Mo_advance_203 : decode b_Mo_advance 203 = .ok (.iload 8, 2) := by decide +kernel
theorem d_Mo_advance_205 : decode b_Mo_advance 205 = .ok (.iadd, 1) := by decide +kernel
theorem d_Mo_advance_206 : decode b_Mo_advance 206 = .ok (.sipush 255, 3) := by decide +kernel
theorem d_Mo_advance_209 : decode b_Mo_advance 209 = .ok (.iand, 1) := by decide +kernel
theorem d_Mo_advance_210 : decode b_Mo_advance 210 = .ok (.iadd, 1) := by decide +kernel
theorem d_Mo_advance_211 : decode b_Mo_advance 211 = .ok (.putfield 72, 3) := by decide +kernel
theorem d_Mo_advance_214 : decode b_Mo_advance 214 = .ok (.aload_n 1, 1) := by decide +kernel
theorem d_Mo_advance_215 : decode b_Mo_advance 215 = .ok (.aload_n 0, 1) := by decide +kernel
theorem d_Mo_advance_216 : decode b_Mo_advance 216 = .ok (.getfield 72, 3) := by decide +kernel
theorem d_Mo_advance_219 : decode b_Mo_advance 219 = .ok (.aload_n 1, 1) := by decide +kernel
theorem d_Mo_advance_220 : decode b_Mo_advance 220 = .ok (.iload 5, 2) := by decide +kernel
theorem d_Mo_advance_222 : decode b_Mo_advance 222 = .ok (.iaload, 1) := by decide +kernel
theorem d_Mo_advance_223 : decode b_Mo_advance 223 = .ok (.iastore, 1) := by decide +kernel
theorem d_Mo_advance_224 : decode b_Mo_advance 224 = .ok (.goto 97, 3) := by decide +kernel
theorem d_Mo_advance_227 : decode b_Mo_advance 227 = .ok (.iload 4, 2) := by decide +kernel
theorem d_Mo_advance_229 : decode b_Mo_advance 229 = .ok (.iconst 5, 1) := by decide +kernel
theorem d_Mo_advance_230 : decode b_Mo_advance 230 = .ok (.if_icmp .ne 22, 3) := by decide +kernel
theorem d_Mo_advance_233 : decode b_Mo_advance 233 = .ok (.aload_n 1, 1) := by decide +kernel
theorem d_Mo_advance_234 : decode b_Mo_advance 234 = .ok (.bipush 8, 2) := by decide +kernel
theorem d_Mo_advance_236 : decode b_Mo_advance 236 = .ok (.aload_n 1, 1) := by decide +kernel
theorem d_Mo_advance_237 : decode b_Mo_advance 237 = .ok (.iload 6, 2) := by decide +kernel
theorem d_Mo_advance_239 : decode b_Mo_advance 239 = .ok (.iaload, 1) := by decide +kernel
theorem d_Mo_advance_240 : decode b_Mo_advance 240 = .ok (.iload 8, 2) := by decide +kernel
theorem d_Mo_advance_242 : decode b_Mo_advance 242 = .ok (.iadd, 1) := by decide +kernel
theorem d_Mo_advance_243 : decode b_Mo_advance 243 = .ok (.sipush 255, 3) := by decide +kernel
theorem d_Mo_advance_246 : decode b_Mo_advance 246 = .ok (.iand, 1) := by decide +kernel
theorem d_Mo_advance_247 : decode b_Mo_advance 247 = .ok (.iadd, 1) := by decide +kernel
theorem d_Mo_advance_248 : decode b_Mo_advance 248 = .ok (.iaload, 1) := by decide +kernel
theorem d_Mo_advance_249 : decode b_Mo_advance 249 = .ok (.goto 38, 3) := by decide +kernel
theorem d_Mo_advance_252 : decode b_Mo_advance 252 = .ok (.iload 4, 2) := by decide +kernel
theorem d_Mo_advance_254 : decode b_Mo_advance 254 = .ok (.bipush 8, 2) := by decide +kernel
theorem d_Mo_advance_256 : decode b_Mo_advance 256 = .ok (.if_icmp .ne 16, 3) := by decide +kernel
theorem d_Mo_advance_259 : decode b_Mo_advance 259 = .ok (.aload_n 0, 1) := by decide +kernel
theorem d_Mo_advance_260 : decode b_Mo_advance 260 = .ok (.getfield 13, 3) := by decide +kernel
theorem d_Mo_advance_263 : decode b_Mo_advance 263 = .ok (.aload_n 1, 1) := by decide +kernel
theorem d_Mo_advance_264 : decode b_Mo_advance 264 = .ok (.sipush 265, 3) := by decide +kernel
theorem d_Mo_advance_267 : decode b_Mo_advance 267 = .ok (.iaload, 1) := by decide +kernel
theorem d_Mo_advance_268 : decode b_Mo_advance 268 = .ok (.iaload, 1) := by decide +kernel
theorem d_Mo_advance_269 : decode b_Mo_advance 269 = .ok (.goto 18, 3) := by decide +kernel
theorem d_Mo_advance_272 : decode b_Mo_advance 272 = .ok (.iload 4, 2) := by decide +kernel
theorem d_Mo_advance_274 : decode b_Mo_advance 274 = .ok (.aload_n 1, 1) := by decide +kernel
theorem d_Mo_advance_275 : decode b_Mo_advance 275 = .ok (.iload 6, 2) := by decide +kernel
theorem d_Mo_advance_277 : decode b_Mo_advance 277 = .ok (.iaload, 1) := by decide +kernel
theorem d_Mo_advance_278 : decode b_Mo_advance 278 = .ok (.aload_n 1, 1) := by decide +kernel
theorem d_Mo_advance_279 : decode b_Mo_advance 279 = .ok (.iload 7, 2) := by decide +kernel
theorem d_Mo_advance_281 : decode b_Mo_advance 281 = .ok (.iaload, 1) := by decide +kernel
theorem d_Mo_advance_282 : decode b_Mo_advance 282 = .ok (.iload 8, 2) := by decide +kernel
theorem d_Mo_advance_284 : decode b_Mo_advance 284 = .ok (.invokestatic 75, 3) := by decide +kernel
theorem d_Mo_advance_287 : decode b_Mo_advance 287 = .ok (.istore 10, 2) := by decide +kernel
theorem d_Mo_advance_289 : decode b_Mo_advance 289 = .ok (.aload_n 1, 1) := by decide +kernel
theorem d_Mo_advance_290 : decode b_Mo_advance 290 = .ok (.sipush 265, 3) := by decide +kernel
theorem d_Mo_advance_293 : decode b_Mo_advance 293 = .ok (.dup2, 1) := by decide +kernel
theorem d_Mo_advance_294 : decode b_Mo_advance 294 = .ok (.iaload, 1) := by decide +kernel
theorem d_Mo_advance_295 : decode b_Mo_advance 295 = .ok (.iload 4, 2) := by decide +kernel
theorem d_Mo_advance_297 : decode b_Mo_advance 297 = .ok (.bipush 8, 2) := by decide +kernel
theorem d_Mo_advance_299 : decode b_Mo_advance 299 = .ok (.if_icmp .ne 7, 3) := by decide +kernel
theorem d_Mo_advance_302 : decode b_Mo_advance 302 = .ok (.iconst 1, 1) := by decide +kernel
theorem d_Mo_advance_303 : decode b_Mo_advance 303 = .ok (.goto 4, 3) := by decide +kernel
theorem d_Mo_advance_306 : decode b_Mo_advance 306 = .ok (.iconst 0, 1) := by decide +kernel
theorem d_Mo_advance_307 : decode b_Mo_advance 307 = .ok (.iadd, 1) := by decide +kernel
theorem d_Mo_advance_308 : decode b_Mo_advance 308 = .ok (.iastore, 1) := by decide +kernel
theorem d_Mo_advance_309 : decode b_Mo_advance 309 = .ok (.aload_n 1, 1) := by decide +kernel
theorem d_Mo_advance_310 : decode b_Mo_advance 310 = .ok (.iload 5, 2) := by decide +kernel
theorem d_Mo_advance_312 : decode b_Mo_advance 312 = .ok (.iload 10, 2) := by decide +kernel
theorem d_Mo_advance_314 : decode b_Mo_advance 314 = .ok (.iastore, 1) := by decide +kernel
theorem d_Mo_advance_315 : decode b_Mo_advance 315 = .ok (.aload_n 0, 1) := by decide +kernel
theorem d_Mo_advance_316 : decode b_Mo_advance 316 = .ok (.iload 5, 2) := by decide +kernel
theorem d_Mo_advance_318 : decode b_Mo_advance 318 = .ok (.putfield 72, 3) := by decide +kernel
theorem d_Mo_advance_321 : decode b_Mo_advance 321 = .ok (.aload_n 1, 1) := by decide +kernel
theorem d_Mo_advance_322 : decode b_Mo_advance 322 = .ok (.sipush 264, 3) := by decide +kernel
theorem d_Mo_advance_325 : decode b_Mo_advance 325 = .ok (.iload 9, 2) := by decide +kernel
theorem d_Mo_advance_327 : decode b_Mo_advance 327 = .ok (.iastore, 1) := by decide +kernel
theorem d_Mo_advance_328 : decode b_Mo_advance 328 = .ok (.iconst 1, 1) := by decide +kernel
theorem d_Mo_advance_329 : decode b_Mo_advance 329 = .ok (.ireturn, 1) := by decide +kernel
theorem d_Mo_costOf_0 : decode b_Mo_costOf 0 = .ok (.aload_n 0, 1) := by decide +kernel
theorem d_Mo_costOf_1 : decode b_Mo_costOf 1 = .ok (.getfield 57, 3) := by decide +kernel
theorem d_Mo_costOf_4 : decode b_Mo_costOf 4 = .ok (.invokestatic 60, 3) := by decide +kernel
theorem d_Mo_costOf_7 : decode b_Mo_costOf 7 = .ok (.istore_n 1, 1) := by decide +kernel
theorem d_Mo_costOf_8 : decode b_Mo_costOf 8 = .ok (.iconst 1, 1) := by decide +kernel
theorem d_Mo_costOf_9 : decode b_Mo_costOf 9 = .ok (.istore_n 2, 1) := by decide +kernel
theorem d_Mo_costOf_10 : decode b_Mo_costOf 10 = .ok (.iload_n 2, 1) := by decide +kernel
theorem d_Mo_costOf_11 : decode b_Mo_costOf 11 = .ok (.aload_n 0, 1) := by decide +kernel
theorem d_Mo_costOf_12 : decode b_Mo_costOf 12 = .ok (.getfield 72, 3) := by decide +kernel
theorem d_Mo_costOf_15 : decode b_Mo_costOf 15 = .ok (.ifCond .lt 34, 3) := by decide +kernel
theorem d_Mo_costOf_18 : decode b_Mo_costOf 18 = .ok (.aload_n 0, 1) := by decide +kernel
theorem d_Mo_costOf_19 : decode b_Mo_costOf 19 = .ok (.getfield 16, 3) := by decide +kernel
theorem d_Mo_costOf_22 : decode b_Mo_costOf 22 = .ok (.aload_n 0, 1) := by decide +kernel
theorem d_Mo_costOf_23 : decode b_Mo_costOf 23 = .ok (.getfield 72, 3) := by decide +kernel
theorem d_Mo_costOf_26 : decode b_Mo_costOf 26 = .ok (.iaload, 1) := by decide +kernel
theorem d_Mo_costOf_27 : decode b_Mo_costOf 27 = .ok (.aload_n 0, 1) := by decide +kernel
theorem d_Mo_costOf_28 : decode b_Mo_costOf 28 = .ok (.getfield 23, 3) := by decide +kernel
theorem d_Mo_costOf_31 : decode b_Mo_costOf 31 = .ok (.sipush 269, 3) := by decide +kernel
theorem d_Mo_costOf_34 : decode b_Mo_costOf 34 = .ok (.iload_n 1, 1) := by decide +kernel
theorem d_Mo_costOf_35 : decode b_Mo_costOf 35 = .ok (.imul, 1) := by decide +kernel
theorem d_Mo_costOf_36 : decode b_Mo_costOf 36 = .ok (.aload_n 0, 1) := by decide +kernel
theorem d_Mo_costOf_37 : decode b_Mo_costOf 37 = .ok (.getfield 72, 3) := by decide +kernel
theorem d_Mo_costOf_40 : decode b_Mo_costOf 40 = .ok (.iadd, 1) := by decide +kernel
theorem d_Mo_costOf_41 : decode b_Mo_costOf 41 = .ok (.iaload, 1) := by decide +kernel
theorem d_Mo_costOf_42 : decode b_Mo_costOf 42 = .ok (.if_icmp .eq 7, 3) := by decide +kernel
theorem d_Mo_costOf_45 : decode b_Mo_costOf 45 = .ok (.iconst 1, 1) := by decide +kernel
theorem d_Mo_costOf_46 : decode b_Mo_costOf 46 = .ok (.goto 4, 3) := by decide +kernel
theorem d_Mo_costOf_49 : decode b_Mo_costOf 49 = .ok (.iconst 0, 1) := by decide +kernel
theorem d_Mo_costOf_50 : decode b_Mo_costOf 50 = .ok (.iadd, 1) := by decide +kernel
theorem d_Mo_costOf_51 : decode b_Mo_costOf 51 = .ok (.istore_n 2, 1) := by decide +kernel
theorem d_Mo_costOf_52 : decode b_Mo_costOf 52 = .ok (.iload_n 2, 1) := by decide +kernel
theorem d_Mo_costOf_53 : decode b_Mo_costOf 53 = .ok (.aload_n 0, 1) := by decide +kernel
theorem d_Mo_costOf_54 : decode b_Mo_costOf 54 = .ok (.getfield 16, 3) := by decide +kernel
theorem d_Mo_costOf_57 : decode b_Mo_costOf 57 = .ok (.sipush 264, 3) := by decide +kernel
theorem d_Mo_costOf_60 : decode b_Mo_costOf 60 = .ok (.iaload, 1) := by decide +kernel
theorem d_Mo_costOf_61 : decode b_Mo_costOf 61 = .ok (.aload_n 0, 1) := by decide +kernel
theorem d_Mo_costOf_62 : decode b_Mo_costOf 62 = .ok (.getfield 23, 3) := by decide +kernel
theorem d_Mo_costOf_65 : decode b_Mo_costOf 65 = .ok (.sipush 269, 3) := by decide +kernel
theorem d_Mo_costOf_68 : decode b_Mo_costOf 68 = .ok (.iload_n 1, 1) := by decide +kernel
theorem d_Mo_costOf_69 : decode b_Mo_costOf 69 = .ok (.imul, 1) := by decide +kernel
theorem d_Mo_costOf_70 : decode b_Mo_costOf 70 = .ok (.sipush 264, 3) := by decide +kernel
theorem d_Mo_costOf_73 : decode b_Mo_costOf 73 = .ok (.iadd, 1) := by decide +kernel
theorem d_Mo_costOf_74 : decode b_Mo_costOf 74 = .ok (.iaload, 1) := by decide +kernel
theorem d_Mo_costOf_75 : decode b_Mo_costOf 75 = .ok (.iconst 1, 1) := by decide +kernel
theorem d_Mo_costOf_76 : decode b_Mo_costOf 76 = .ok (.iadd, 1) := by decide +kernel
theorem d_Mo_costOf_77 : decode b_Mo_costOf 77 = .ok (.bipush 63, 2) := by decide +kernel
theorem d_Mo_costOf_79 : decode b_Mo_costOf 79 = .ok (.iand, 1) := by decide +kernel
theorem d_Mo_costOf_80 : decode b_Mo_costOf 80 = .ok (.if_icmp .eq 7, 3) := by decide +kernel
theorem d_Mo_costOf_83 : decode b_Mo_costOf 83 = .ok (.iconst 1, 1) := by decide +kernel
theorem d_Mo_costOf_84 : decode b_Mo_costOf 84 = .ok (.goto 4, 3) := by decide +kernel
theorem d_Mo_costOf_87 : decode b_Mo_costOf 87 = .ok (.iconst 0, 1) := by decide +kernel
theorem d_Mo_costOf_88 : decode b_Mo_costOf 88 = .ok (.iadd, 1) := by decide +kernel
theorem d_Mo_costOf_89 : decode b_Mo_costOf 89 = .ok (.istore_n 2, 1) := by decide +kernel
theorem d_Mo_costOf_90 : decode b_Mo_costOf 90 = .ok (.iload_n 2, 1) := by decide +kernel
theorem d_Mo_costOf_91 : decode b_Mo_costOf 91 = .ok (.aload_n 0, 1) := by decide +kernel
theorem d_Mo_costOf_92 : decode b_Mo_costOf 92 = .ok (.getfield 16, 3) := by decide +kernel
theorem d_Mo_costOf_95 : decode b_Mo_costOf 95 = .ok (.sipush 265, 3) := by decide +kernel
theorem d_Mo_costOf_98 : decode b_Mo_costOf 98 = .ok (.iaload, 1) := by decide +kernel
theorem d_Mo_costOf_99 : decode b_Mo_costOf 99 = .ok (.aload_n 0, 1) := by decide +kernel
theorem d_Mo_costOf_100 : decode b_Mo_costOf 100 = .ok (.getfield 23, 3) := by decide +kernel
theorem d_Mo_costOf_103 : decode b_Mo_costOf 103 = .ok (.sipush 269, 3) := by decide +kernel
theorem d_Mo_costOf_106 : decode b_Mo_costOf 106 = .ok (.iload_n 1, 1) := by decide +kernel
theorem d_Mo_costOf_107 : decode b_Mo_costOf 107 = .ok (.imul, 1) := by decide +kernel
theorem d_Mo_costOf_108 : decode b_Mo_costOf 108 = .ok (.sipush 265, 3) := by decide +kernel
theorem d_Mo_costOf_111 : decode b_Mo_costOf 111 = .ok (.iadd, 1) := by decide +kernel
theorem d_Mo_costOf_112 : decode b_Mo_costOf 112 = .ok (.iaload, 1) := by decide +kernel
theorem d_Mo_costOf_113 : decode b_Mo_costOf 113 = .ok (.isub, 1) := by decide +kernel
theorem d_Mo_costOf_114 : decode b_Mo_costOf 114 = .ok (.iadd, 1) := by decide +kernel
theorem d_Mo_costOf_115 : decode b_Mo_costOf 115 = .ok (.istore_n 2, 1) := by decide +kernel
theorem d_Mo_costOf_116 : decode b_Mo_costOf 116 = .ok (.iload_n 2, 1) := by decide +kernel
theorem d_Mo_costOf_117 : decode b_Mo_costOf 117 = .ok (.aload_n 0, 1) := by decide +kernel
theorem d_Mo_costOf_118 : decode b_Mo_costOf 118 = .ok (.getfield 16, 3) := by decide +kernel
theorem d_Mo_costOf_121 : decode b_Mo_costOf 121 = .ok (.sipush 266, 3) := by decide +kernel
theorem d_Mo_costOf_124 : decode b_Mo_costOf 124 = .ok (.iaload, 1) := by decide +kernel
theorem d_Mo_costOf_125 : decode b_Mo_costOf 125 = .ok (.aload_n 0, 1) := by decide +kernel
theorem d_Mo_costOf_126 : decode b_Mo_costOf 126 = .ok (.getfield 23, 3) := by decide +kernel
theorem d_Mo_costOf_129 : decode b_Mo_costOf 129 = .ok (.sipush 269, 3) := by decide +kernel
theorem d_Mo_costOf_132 : decode b_Mo_costOf 132 = .ok (.iload_n 1, 1) := by decide +kernel
theorem d_Mo_costOf_133 : decode b_Mo_costOf 133 = .ok (.imul, 1) := by decide +kernel
theorem d_Mo_costOf_134 : decode b_Mo_costOf 134 = .ok (.sipush 266, 3) := by decide +kernel
theorem d_Mo_costOf_137 : decode b_Mo_costOf 137 = .ok (.iadd, 1) := by decide +kernel
theorem d_Mo_costOf_138 : decode b_Mo_costOf 138 = .ok (.iaload, 1) := by decide +kernel
theorem d_Mo_costOf_139 : decode b_Mo_costOf 139 = .ok (.isub, 1) := by decide +kernel
theorem d_Mo_costOf_140 : decode b_Mo_costOf 140 = .ok (.iadd, 1) := by decide +kernel
theorem d_Mo_costOf_141 : decode b_Mo_costOf 141 = .ok (.istore_n 2, 1) := by decide +kernel
theorem d_Mo_costOf_142 : decode b_Mo_costOf 142 = .ok (.iload_n 2, 1) := by decide +kernel
theorem d_Mo_costOf_143 : decode b_Mo_costOf 143 = .ok (.ireturn, 1) := by decide +kernel
theorem d_Mo_allCosts_0 : decode b_Mo_allCosts 0 = .ok (.iconst 0, 1) := by decide +kernel
theorem d_Mo_allCosts_1 : decode b_Mo_allCosts 1 = .ok (.istore_n 1, 1) := by decide +kernel
theorem d_Mo_allCosts_2 : decode b_Mo_allCosts 2 = .ok (.aload_n 0, 1) := by decide +kernel
theorem d_Mo_allCosts_3 : decode b_Mo_allCosts 3 = .ok (.getfield 66, 3) := by decide +kernel
theorem d_Mo_allCosts_6 : decode b_Mo_allCosts 6 = .ok (.istore_n 2, 1) := by decide +kernel
theorem d_Mo_allCosts_7 : decode b_Mo_allCosts 7 = .ok (.iload_n 2, 1) := by decide +kernel
theorem d_Mo_allCosts_8 : decode b_Mo_allCosts 8 = .ok (.aload_n 0, 1) := by decide +kernel
theorem d_Mo_allCosts_9 : decode b_Mo_allCosts 9 = .ok (.getfield 57, 3) := by decide +kernel
theorem d_Mo_allCosts_12 : decode b_Mo_allCosts 12 = .ok (.if_icmp .ge 21, 3) := by decide +kernel
theorem d_Mo_allCosts_15 : decode b_Mo_allCosts 15 = .ok (.iload_n 1, 1) := by decide +kernel
theorem d_Mo_allCosts_16 : decode b_Mo_allCosts 16 = .ok (.aload_n 0, 1) := by decide +kernel
theorem d_Mo_allCosts_17 : decode b_Mo_allCosts 17 = .ok (.getfield 26, 3) := by decide +kernel
theorem d_Mo_allCosts_20 : decode b_Mo_allCosts 20 = .ok (.iload_n 2, 1) := by decide +kernel
theorem d_Mo_allCosts_21 : decode b_Mo_allCosts 21 = .ok (.invokestatic 60, 3) := by decide +kernel
theorem d_Mo_allCosts_24 : decode b_Mo_allCosts 24 = .ok (.iaload, 1) := by decide +kernel
theorem d_Mo_allCosts_25 : decode b_Mo_allCosts 25 = .ok (.iadd, 1) := by decide +kernel
theorem d_Mo_allCosts_26 : decode b_Mo_allCosts 26 = .ok (.istore_n 1, 1) := by decide +kernel
theorem d_Mo_allCosts_27 : decode b_Mo_allCosts 27 = .ok (.iinc 2 1, 3) := by decide +kernel
theorem d_Mo_allCosts_30 : decode b_Mo_allCosts 30 = .ok (.goto (-23), 3) := by decide +kernel
theorem d_Mo_allCosts_33 : decode b_Mo_allCosts 33 = .ok (.iload_n 1, 1) := by decide +kernel
theorem d_Mo_allCosts_34 : decode b_Mo_allCosts 34 = .ok (.ireturn, 1) := by decide +kernel
theorem d_Mo_stepOnce_0 : decode b_Mo_stepOnce 0 = .ok (.aload_n 0, 1) := by decide +kernel
theorem d_Mo_stepOnce_1 : decode b_Mo_stepOnce 1 = .ok (.getfield 16, 3) := by decide +kernel
theorem d_Mo_stepOnce_4 : decode b_Mo_stepOnce 4 = .ok (.sipush 268, 3) := by decide +kernel
theorem d_Mo_stepOnce_7 : decode b_Mo_stepOnce 7 = .ok (.iaload, 1) := by decide +kernel
theorem d_Mo_stepOnce_8 : decode b_Mo_stepOnce 8 = .ok (.ifCond .le 5, 3) := by decide +kernel
theorem d_Mo_stepOnce_11 : decode b_Mo_stepOnce 11 = .ok (.iconst 0, 1) := by decide +kernel
theorem d_Mo_stepOnce_12 : decode b_Mo_stepOnce 12 = .ok (.ireturn, 1) := by decide +kernel
theorem d_Mo_stepOnce_13 : decode b_Mo_stepOnce 13 = .ok (.aload_n 0, 1) := by decide +kernel
theorem d_Mo_stepOnce_14 : decode b_Mo_stepOnce 14 = .ok (.invokevirtual 79, 3) := by decide +kernel
theorem d_Mo_stepOnce_17 : decode b_Mo_stepOnce 17 = .ok (.aload_n 0, 1) := by decide +kernel
theorem d_Mo_stepOnce_18 : decode b_Mo_stepOnce 18 = .ok (.aload_n 0, 1) := by decide +kernel
theorem d_Mo_stepOnce_19 : decode b_Mo_stepOnce 19 = .ok (.getfield 16, 3) := by decide +kernel
theorem d_Mo_stepOnce_22 : decode b_Mo_stepOnce 22 = .ok (.aload_n 0, 1) := by decide +kernel
theorem d_Mo_stepOnce_23 : decode b_Mo_stepOnce 23 = .ok (.getfield 54, 3) := by decide +kernel
theorem d_Mo_stepOnce_26 : decode b_Mo_stepOnce 26 = .ok (.invokevirtual 82, 3) := by decide +kernel
theorem d_Mo_stepOnce_29 : decode b_Mo_stepOnce 29 = .ok (.ifCond .ne 5, 3) := by decide +kernel
theorem d_Mo_stepOnce_32 : decode b_Mo_stepOnce 32 = .ok (.iconst 0, 1) := by decide +kernel
theorem d_Mo_stepOnce_33 : decode b_Mo_stepOnce 33 = .ok (.ireturn, 1) := by decide +kernel
theorem d_Mo_stepOnce_34 : decode b_Mo_stepOnce 34 = .ok (.aload_n 0, 1) := by decide +kernel
theorem d_Mo_stepOnce_35 : decode b_Mo_stepOnce 35 = .ok (.getfield 26, 3) := by decide +kernel
theorem d_Mo_stepOnce_38 : decode b_Mo_stepOnce 38 = .ok (.aload_n 0, 1) := by decide +kernel
theorem d_Mo_stepOnce_39 : decode b_Mo_stepOnce 39 = .ok (.getfield 57, 3) := by decide +kernel
theorem d_Mo_stepOnce_42 : decode b_Mo_stepOnce 42 = .ok (.invokestatic 60, 3) := by decide +kernel
theorem d_Mo_stepOnce_45 : decode b_Mo_stepOnce 45 = .ok (.aload_n 0, 1) := by decide +kernel
theorem d_Mo_stepOnce_46 : decode b_Mo_stepOnce 46 = .ok (.invokevirtual 86, 3) := by decide +kernel
theorem d_Mo_stepOnce_49 : decode b_Mo_stepOnce 49 = .ok (.iastore, 1) := by decide +kernel
theorem d_Mo_stepOnce_50 : decode b_Mo_stepOnce 50 = .ok (.aload_n 0, 1) := by decide +kernel
theorem d_Mo_stepOnce_51 : decode b_Mo_stepOnce 51 = .ok (.getfield 29, 3) := by decide +kernel
theorem d_Mo_stepOnce_54 : decode b_Mo_stepOnce 54 = .ok (.aload_n 0, 1) := by decide +kernel
theorem d_Mo_stepOnce_55 : decode b_Mo_stepOnce 55 = .ok (.getfield 57, 3) := by decide +kernel
theorem d_Mo_stepOnce_58 : decode b_Mo_stepOnce 58 = .ok (.invokestatic 60, 3) := by decide +kernel
theorem d_Mo_stepOnce_61 : decode b_Mo_stepOnce 61 = .ok (.aload_n 0, 1) := by decide +kernel
theorem d_Mo_stepOnce_62 : decode b_Mo_stepOnce 62 = .ok (.getfield 72, 3) := by decide +kernel
theorem d_Mo_stepOnce_65 : decode b_Mo_stepOnce 65 = .ok (.iastore, 1) := by decide +kernel
theorem d_Mo_stepOnce_66 : decode b_Mo_stepOnce 66 = .ok (.aload_n 0, 1) := by decide +kernel
theorem d_Mo_stepOnce_67 : decode b_Mo_stepOnce 67 = .ok (.dup, 1) := by decide +kernel
theorem d_Mo_stepOnce_68 : decode b_Mo_stepOnce 68 = .ok (.getfield 57, 3) := by decide +kernel
theorem d_Mo_stepOnce_71 : decode b_Mo_stepOnce 71 = .ok (.iconst 1, 1) := by decide +kernel
theorem d_Mo_stepOnce_72 : decode b_Mo_stepOnce 72 = .ok (.iadd, 1) := by decide +kernel
theorem d_Mo_stepOnce_73 : decode b_Mo_stepOnce 73 = .ok (.putfield 57, 3) := by decide +kernel
theorem d_Mo_stepOnce_76 : decode b_Mo_stepOnce 76 = .ok (.aload_n 0, 1) := by decide +kernel
theorem d_Mo_stepOnce_77 : decode b_Mo_stepOnce 77 = .ok (.invokevirtual 90, 3) := by decide +kernel
theorem d_Mo_stepOnce_80 : decode b_Mo_stepOnce 80 = .ok (.istore_n 1, 1) := by decide +kernel
theorem d_Mo_stepOnce_81 : decode b_Mo_stepOnce 81 = .ok (.iload_n 1, 1) := by decide +kernel
theorem d_Mo_stepOnce_82 : decode b_Mo_stepOnce 82 = .ok (.aload_n 0, 1) := by decide +kernel
theorem d_Mo_stepOnce_83 : decode b_Mo_stepOnce 83 = .ok (.getfield 36, 3) := by decide +kernel
theorem d_Mo_stepOnce_86 : decode b_Mo_stepOnce 86 = .ok (.if_icmp .le 41, 3) := by decide +kernel
theorem d_Mo_stepOnce_89 : decode b_Mo_stepOnce 89 = .ok (.iload_n 1, 1) := by decide +kernel
theorem d_Mo_stepOnce_90 : decode b_Mo_stepOnce 90 = .ok (.aload_n 0, 1) := by decide +kernel
theorem d_Mo_stepOnce_91 : decode b_Mo_stepOnce 91 = .ok (.getfield 26, 3) := by decide +kernel
theorem d_Mo_stepOnce_94 : decode b_Mo_stepOnce 94 = .ok (.aload_n 0, 1) := by decide +kernel
theorem d_Mo_stepOnce_95 : decode b_Mo_stepOnce 95 = .ok (.getfield 66, 3) := by decide +kernel
theorem d_Mo_stepOnce_98 : decode b_Mo_stepOnce 98 = .ok (.invokestatic 60, 3) := by decide +kernel
theorem d_Mo_stepOnce_101 : decode b_Mo_stepOnce 101 = .ok (.iaload, 1) := by decide +kernel
theorem d_Mo_stepOnce_102 : decode b_Mo_stepOnce 102 = .ok (.isub, 1) := by decide +kernel
theorem d_Mo_stepOnce_103 : decode b_Mo_stepOnce 103 = .ok (.istore_n 1, 1) := by decide +kernel
theorem d_Mo_stepOnce_104 : decode b_Mo_stepOnce 104 = .ok (.aload_n 0, 1) := by decide +kernel
theorem d_Mo_stepOnce_105 : decode b_Mo_stepOnce 105 = .ok (.dup, 1) := by decide +kernel
theorem d_Mo_stepOnce_106 : decode b_Mo_stepOnce 106 = .ok (.getfield 66, 3) := by decide +kernel
theorem d_Mo_stepOnce_109 : decode b_Mo_stepOnce 109 = .ok (.iconst 1, 1) := by decide +kernel
theorem d_Mo_stepOnce_110 : decode b_Mo_stepOnce 110 = .ok (.iadd, 1) := by decide +kernel
theorem d_Mo_stepOnce_111 : decode b_Mo_stepOnce 111 = .ok (.putfield 66, 3) := by decide +kernel
theorem d_Mo_stepOnce_114 : decode b_Mo_stepOnce 114 = .ok (.aload_n 0, 1) := by decide +kernel
theorem d_Mo_stepOnce_115 : decode b_Mo_stepOnce 115 = .ok (.dup, 1) := by decide +kernel
theorem d_Mo_stepOnce_116 : decode b_Mo_stepOnce 116 = .ok (.getfield 63, 3) := by decide +kernel
theorem d_Mo_stepOnce_119 : decode b_Mo_stepOnce 119 = .ok (.iconst 1, 1) := by decide +kernel
theorem d_Mo_stepOnce_120 : decode b_Mo_stepOnce 120 = .ok (.iadd, 1) := by decide +kernel
theorem d_Mo_stepOnce_121 : decode b_Mo_stepOnce 121 = .ok (.putfield 63, 3) := by decide +kernel
theorem d_Mo_stepOnce_124 : decode b_Mo_stepOnce 124 = .ok (.goto (-43), 3) := by decide +kernel
theorem d_Mo_stepOnce_127 : decode b_Mo_stepOnce 127 = .ok (.iconst 1, 1) := by decide +kernel
theorem d_Mo_stepOnce_128 : decode b_Mo_stepOnce 128 = .ok (.ireturn, 1) := by decide +kernel
theorem d_Mo_step_0 : decode b_Mo_step 0 = .ok (.aload_n 0, 1) := by decide +kernel
theorem d_Mo_step_1 : decode b_Mo_step 1 = .ok (.iconst 0, 1) := by decide +kernel
theorem d_Mo_step_2 : decode b_Mo_step 2 = .ok (.putfield 43, 3) := by decide +kernel
theorem d_Mo_step_5 : decode b_Mo_step 5 = .ok (.iload_n 1, 1) := by decide +kernel
theorem d_Mo_step_6 : decode b_Mo_step 6 = .ok (.iconst 1, 1) := by decide +kernel
theorem d_Mo_step_7 : decode b_Mo_step 7 = .ok (.sipush 2000, 3) := by decide +kernel
theorem d_Mo_step_10 : decode b_Mo_step 10 = .ok (.invokestatic 46, 3) := by decide +kernel
theorem d_Mo_step_13 : decode b_Mo_step 13 = .ok (.ifCond .ne 9, 3) := by decide +kernel
theorem d_Mo_step_16 : decode b_Mo_step 16 = .ok (.aload_n 0, 1) := by decide +kernel
theorem d_Mo_step_17 : decode b_Mo_step 17 = .ok (.iconst 1, 1) := by decide +kernel
theorem d_Mo_step_18 : decode b_Mo_step 18 = .ok (.invokevirtual 50, 3) := by decide +kernel
theorem d_Mo_step_21 : decode b_Mo_step 21 = .ok (.ireturn, 1) := by decide +kernel
theorem d_Mo_step_22 : decode b_Mo_step 22 = .ok (.iconst 0, 1) := by decide +kernel
theorem d_Mo_step_23 : decode b_Mo_step 23 = .ok (.istore_n 2, 1) := by decide +kernel
theorem d_Mo_step_24 : decode b_Mo_step 24 = .ok (.iload_n 2, 1) := by decide +kernel
theorem d_Mo_step_25 : decode b_Mo_step 25 = .ok (.iload_n 1, 1) := by decide +kernel
theorem d_Mo_step_26 : decode b_Mo_step 26 = .ok (.if_icmp .ge 16, 3) := by decide +kernel
theorem d_Mo_step_29 : decode b_Mo_step 29 = .ok (.aload_n 0, 1) := by decide +kernel
theorem d_Mo_step_30 : decode b_Mo_step 30 = .ok (.invokevirtual 93, 3) := by decide +kernel
theorem d_Mo_step_33 : decode b_Mo_step 33 = .ok (.ifCond .eq 9, 3) := by decide +kernel
theorem d_Mo_step_36 : decode b_Mo_step 36 = .ok (.iinc 2 1, 3) := by decide +kernel
theorem d_Mo_step_39 : decode b_Mo_step 39 = .ok (.goto (-15), 3) := by decide +kernel
theorem d_Mo_step_42 : decode b_Mo_step 42 = .ok (.iload_n 2, 1) := by decide +kernel
theorem d_Mo_step_43 : decode b_Mo_step 43 = .ok (.ireturn, 1) := by decide +kernel
theorem d_Mo_isKept_0 : decode b_Mo_isKept 0 = .ok (.iload_n 1, 1) := by decide +kernel
theorem d_Mo_isKept_1 : decode b_Mo_isKept 1 = .ok (.aload_n 0, 1) := by decide +kernel
theorem d_Mo_isKept_2 : decode b_Mo_isKept 2 = .ok (.getfield 66, 3) := by decide +kernel
theorem d_Mo_isKept_5 : decode b_Mo_isKept 5 = .ok (.aload_n 0, 1) := by decide +kernel
theorem d_Mo_isKept_6 : decode b_Mo_isKept 6 = .ok (.getfield 57, 3) := by decide +kernel
theorem d_Mo_isKept_9 : decode b_Mo_isKept 9 = .ok (.invokestatic 46, 3) := by decide +kernel
theorem d_Mo_isKept_12 : decode b_Mo_isKept 12 = .ok (.ireturn, 1) := by decide +kernel
theorem d_Mo_back_0 : decode b_Mo_back 0 = .ok (.aload_n 0, 1) := by decide +kernel
theorem d_Mo_back_1 : decode b_Mo_back 1 = .ok (.iconst 0, 1) := by decide +kernel
theorem d_Mo_back_2 : decode b_Mo_back 2 = .ok (.putfield 43, 3) := by decide +kernel
theorem d_Mo_back_5 : decode b_Mo_back 5 = .ok (.aload_n 0, 1) := by decide +kernel
theorem d_Mo_back_6 : decode b_Mo_back 6 = .ok (.iload_n 1, 1) := by decide +kernel
theorem d_Mo_back_7 : decode b_Mo_back 7 = .ok (.invokevirtual 97, 3) := by decide +kernel
theorem d_Mo_back_10 : decode b_Mo_back 10 = .ok (.ifCond .ne 9, 3) := by decide +kernel
theorem d_Mo_back_13 : decode b_Mo_back 13 = .ok (.aload_n 0, 1) := by decide +kernel
theorem d_Mo_back_14 : decode b_Mo_back 14 = .ok (.iconst 1, 1) := by decide +kernel
theorem d_Mo_back_15 : decode b_Mo_back 15 = .ok (.invokevirtual 50, 3) := by decide +kernel
theorem d_Mo_back_18 : decode b_Mo_back 18 = .ok (.ireturn, 1) := by decide +kernel
theorem d_Mo_back_19 : decode b_Mo_back 19 = .ok (.aload_n 0, 1) := by decide +kernel
theorem d_Mo_back_20 : decode b_Mo_back 20 = .ok (.getfield 57, 3) := by decide +kernel
theorem d_Mo_back_23 : decode b_Mo_back 23 = .ok (.iload_n 1, 1) := by decide +kernel
theorem d_Mo_back_24 : decode b_Mo_back 24 = .ok (.isub, 1) := by decide +kernel
theorem d_Mo_back_25 : decode b_Mo_back 25 = .ok (.istore_n 2, 1) := by decide +kernel
theorem d_Mo_back_26 : decode b_Mo_back 26 = .ok (.iconst 0, 1) := by decide +kernel
theorem d_Mo_back_27 : decode b_Mo_back 27 = .ok (.istore_n 3, 1) := by decide +kernel
theorem d_Mo_back_28 : decode b_Mo_back 28 = .ok (.iload_n 3, 1) := by decide +kernel
theorem d_Mo_back_29 : decode b_Mo_back 29 = .ok (.sipush 269, 3) := by decide +kernel
theorem d_Mo_back_32 : decode b_Mo_back 32 = .ok (.if_icmp .ge 21, 3) := by decide +kernel
theorem d_Mo_back_35 : decode b_Mo_back 35 = .ok (.aload_n 0, 1) := by decide +kernel
theorem d_Mo_back_36 : decode b_Mo_back 36 = .ok (.getfield 16, 3) := by decide +kernel
theorem d_Mo_back_39 : decode b_Mo_back 39 = .ok (.iload_n 3, 1) := by decide +kernel
theorem d_Mo_back_40 : decode b_Mo_back 40 = .ok (.aload_n 0, 1) := by decide +kernel
theorem d_Mo_back_41 : decode b_Mo_back 41 = .ok (.iload_n 1, 1) := by decide +kernel
theorem d_Mo_back_42 : decode b_Mo_back 42 = .ok (.iload_n 3, 1) := by decide +kernel
theorem d_Mo_back_43 : decode b_Mo_back 43 = .ok (.invokevirtual 101, 3) := by decide +kernel
theorem d_Mo_back_46 : decode b_Mo_back 46 = .ok (.iastore, 1) := by decide +kernel
theorem d_Mo_back_47 : decode b_Mo_back 47 = .ok (.iinc 3 1, 3) := by decide +kernel
theorem d_Mo_back_50 : decode b_Mo_back 50 = .ok (.goto (-22), 3) := by decide +kernel
theorem d_Mo_back_53 : decode b_Mo_back 53 = .ok (.aload_n 0, 1) := by decide +kernel
theorem d_Mo_back_54 : decode b_Mo_back 54 = .ok (.iload_n 1, 1) := by decide +kernel
theorem d_Mo_back_55 : decode b_Mo_back 55 = .ok (.putfield 57, 3) := by decide +kernel
theorem d_Mo_back_58 : decode b_Mo_back 58 = .ok (.iload_n 2, 1) := by decide +kernel
theorem d_Mo_back_59 : decode b_Mo_back 59 = .ok (.ireturn, 1) := by decide +kernel
theorem d_Mo_look_0 : decode b_Mo_look 0 = .ok (.aload_n 0, 1) := by decide +kernel
theorem d_Mo_look_1 : decode b_Mo_look 1 = .ok (.iconst 0, 1) := by decide +kernel
theorem d_Mo_look_2 : decode b_Mo_look 2 = .ok (.putfield 43, 3) := by decide +kernel
theorem d_Mo_look_5 : decode b_Mo_look 5 = .ok (.aload_n 0, 1) := by decide +kernel
theorem d_Mo_look_6 : decode b_Mo_look 6 = .ok (.iload_n 1, 1) := by decide +kernel
theorem d_Mo_look_7 : decode b_Mo_look 7 = .ok (.invokevirtual 97, 3) := by decide +kernel
theorem d_Mo_look_10 : decode b_Mo_look 10 = .ok (.ifCond .ne 9, 3) := by decide +kernel
theorem d_Mo_look_13 : decode b_Mo_look 13 = .ok (.aload_n 0, 1) := by decide +kernel
theorem d_Mo_look_14 : decode b_Mo_look 14 = .ok (.iconst 1, 1) := by decide +kernel
theorem d_Mo_look_15 : decode b_Mo_look 15 = .ok (.invokevirtual 50, 3) := by decide +kernel
theorem d_Mo_look_18 : decode b_Mo_look 18 = .ok (.ireturn, 1) := by decide +kernel
theorem d_Mo_look_19 : decode b_Mo_look 19 = .ok (.iload_n 2, 1) := by decide +kernel
theorem d_Mo_look_20 : decode b_Mo_look 20 = .ok (.iconst 0, 1) := by decide +kernel
theorem d_Mo_look_21 : decode b_Mo_look 21 = .ok (.sipush 268, 3) := by decide +kernel
theorem d_Mo_look_24 : decode b_Mo_look 24 = .ok (.invokestatic 46, 3) := by decide +kernel
theorem d_Mo_look_27 : decode b_Mo_look 27 = .ok (.ifCond .eq 12, 3) := by decide +kernel
theorem d_Mo_look_30 : decode b_Mo_look 30 = .ok (.aload_n 0, 1) := by decide +kernel
theorem d_Mo_look_31 : decode b_Mo_look 31 = .ok (.iload_n 1, 1) := by decide +kernel
theorem d_Mo_look_32 : decode b_Mo_look 32 = .ok (.iload_n 2, 1) := by decide +kernel
theorem d_Mo_look_33 : decode b_Mo_look 33 = .ok (.invokevirtual 101, 3) := by decide +kernel
theorem d_Mo_look_36 : decode b_Mo_look 36 = .ok (.goto 8, 3) := by decide +kernel
theorem d_Mo_look_39 : decode b_Mo_look 39 = .ok (.aload_n 0, 1) := by decide +kernel
theorem d_Mo_look_40 : decode b_Mo_look 40 = .ok (.iconst 2, 1) := by decide +kernel
theorem d_Mo_look_41 : decode b_Mo_look 41 = .ok (.invokevirtual 50, 3) := by decide +kernel
theorem d_Mo_look_44 : decode b_Mo_look 44 = .ok (.ireturn, 1) := by decide +kernel
theorem d_Mo_wrote_0 : decode b_Mo_wrote 0 = .ok (.aload_n 0, 1) := by decide +kernel
theorem d_Mo_wrote_1 : decode b_Mo_wrote 1 = .ok (.iconst 0, 1) := by decide +kernel
theorem d_Mo_wrote_2 : decode b_Mo_wrote 2 = .ok (.putfield 43, 3) := by decide +kernel
theorem d_Mo_wrote_5 : decode b_Mo_wrote 5 = .ok (.iload_n 1, 1) := by decide +kernel
theorem d_Mo_wrote_6 : decode b_Mo_wrote 6 = .ok (.iconst 0, 1) := by decide +kernel
theorem d_Mo_wrote_7 : decode b_Mo_wrote 7 = .ok (.sipush 263, 3) := by decide +kernel
theorem d_Mo_wrote_10 : decode b_Mo_wrote 10 = .ok (.invokestatic 46, 3) := by decide +kernel
theorem d_Mo_wrote_13 : decode b_Mo_wrote 13 = .ok (.ifCond .ne 9, 3) := by decide +kernel
theorem d_Mo_wrote_16 : decode b_Mo_wrote 16 = .ok (.aload_n 0, 1) := by decide +kernel
theorem d_Mo_wrote_17 : decode b_Mo_wrote 17 = .ok (.iconst 1, 1) := by decide +kernel
theorem d_Mo_wrote_18 : decode b_Mo_wrote 18 = .ok (.invokevirtual 50, 3) := by decide +kernel
theorem d_Mo_wrote_21 : decode b_Mo_wrote 21 = .ok (.ireturn, 1) := by decide +kernel
theorem d_Mo_wrote_22 : decode b_Mo_wrote 22 = .ok (.aload_n 0, 1) := by decide +kernel
theorem d_Mo_wrote_23 : decode b_Mo_wrote 23 = .ok (.getfield 57, 3) := by decide +kernel
theorem d_Mo_wrote_26 : decode b_Mo_wrote 26 = .ok (.iconst 1, 1) := by decide +kernel
theorem d_Mo_wrote_27 : decode b_Mo_wrote 27 = .ok (.isub, 1) := by decide +kernel
theorem d_Mo_wrote_28 : decode b_Mo_wrote 28 = .ok (.istore_n 2, 1) := by decide +kernel
theorem d_Mo_wrote_29 : decode b_Mo_wrote 29 = .ok (.iload_n 2, 1) := by decide +kernel
theorem d_Mo_wrote_30 : decode b_Mo_wrote 30 = .ok (.aload_n 0, 1) := by decide +kernel
theorem d_Mo_wrote_31 : decode b_Mo_wrote 31 = .ok (.getfield 66, 3) := by decide +kernel
theorem d_Mo_wrote_34 : decode b_Mo_wrote 34 = .ok (.if_icmp .lt 26, 3) := by decide +kernel
theorem d_Mo_wrote_37 : decode b_Mo_wrote 37 = .ok (.aload_n 0, 1) := by decide +kernel
theorem d_Mo_wrote_38 : decode b_Mo_wrote 38 = .ok (.getfield 29, 3) := by decide +kernel
theorem d_Mo_wrote_41 : decode b_Mo_wrote 41 = .ok (.iload_n 2, 1) := by decide +kernel
theorem d_Mo_wrote_42 : decode b_Mo_wrote 42 = .ok (.invokestatic 60, 3) := by decide +kernel
theorem d_Mo_wrote_45 : decode b_Mo_wrote 45 = .ok (.iaload, 1) := by decide +kernel
theorem d_Mo_wrote_46 : decode b_Mo_wrote 46 = .ok (.iload_n 1, 1) := by decide +kernel
theorem d_Mo_wrote_47 : decode b_Mo_wrote 47 = .ok (.if_icmp .ne 7, 3) := by decide +kernel
theorem d_Mo_wrote_50 : decode b_Mo_wrote 50 = .ok (.iload_n 2, 1) := by decide +kernel
theorem d_Mo_wrote_51 : decode b_Mo_wrote 51 = .ok (.iconst 1, 1) := by decide +kernel
theorem d_Mo_wrote_52 : decode b_Mo_wrote 52 = .ok (.iadd, 1) := by decide +kernel
theorem d_Mo_wrote_53 : decode b_Mo_wrote 53 = .ok (.ireturn, 1) := by decide +kernel
theorem d_Mo_wrote_54 : decode b_Mo_wrote 54 = .ok (.iinc 2 (-1), 3) := by decide +kernel
theorem d_Mo_wrote_57 : decode b_Mo_wrote 57 = .ok (.goto (-28), 3) := by decide +kernel
theorem d_Mo_wrote_60 : decode b_Mo_wrote 60 = .ok (.iconst (-1), 1) := by decide +kernel
theorem d_Mo_wrote_61 : decode b_Mo_wrote 61 = .ok (.ireturn, 1) := by decide +kernel
theorem d_Mo_when_0 : decode b_Mo_when 0 = .ok (.aload_n 0, 1) := by decide +kernel
theorem d_Mo_when_1 : decode b_Mo_when 1 = .ok (.iconst 0, 1) := by decide +kernel
theorem d_Mo_when_2 : decode b_Mo_when 2 = .ok (.putfield 43, 3) := by decide +kernel
theorem d_Mo_when_5 : decode b_Mo_when 5 = .ok (.aload_n 0, 1) := by decide +kernel
theorem d_Mo_when_6 : decode b_Mo_when 6 = .ok (.iload_n 1, 1) := by decide +kernel
theorem d_Mo_when_7 : decode b_Mo_when 7 = .ok (.invokevirtual 97, 3) := by decide +kernel
theorem d_Mo_when_10 : decode b_Mo_when 10 = .ok (.ifCond .ne 9, 3) := by decide +kernel
theorem d_Mo_when_13 : decode b_Mo_when 13 = .ok (.aload_n 0, 1) := by decide +kernel
theorem d_Mo_when_14 : decode b_Mo_when 14 = .ok (.iconst 1, 1) := by decide +kernel
theorem d_Mo_when_15 : decode b_Mo_when 15 = .ok (.invokevirtual 50, 3) := by decide +kernel
theorem d_Mo_when_18 : decode b_Mo_when 18 = .ok (.ireturn, 1) := by decide +kernel
theorem d_Mo_when_19 : decode b_Mo_when 19 = .ok (.iload_n 2, 1) := by decide +kernel
theorem d_Mo_when_20 : decode b_Mo_when 20 = .ok (.iconst 0, 1) := by decide +kernel
theorem d_Mo_when_21 : decode b_Mo_when 21 = .ok (.sipush 263, 3) := by decide +kernel
theorem d_Mo_when_24 : decode b_Mo_when 24 = .ok (.invokestatic 46, 3) := by decide +kernel
theorem d_Mo_when_27 : decode b_Mo_when 27 = .ok (.ifCond .ne 9, 3) := by decide +kernel
theorem d_Mo_when_30 : decode b_Mo_when 30 = .ok (.aload_n 0, 1) := by decide +kernel
theorem d_Mo_when_31 : decode b_Mo_when 31 = .ok (.iconst 2, 1) := by decide +kernel
theorem d_Mo_when_32 : decode b_Mo_when 32 = .ok (.invokevirtual 50, 3) := by decide +kernel
theorem d_Mo_when_35 : decode b_Mo_when 35 = .ok (.ireturn, 1) := by decide +kernel
theorem d_Mo_when_36 : decode b_Mo_when 36 = .ok (.iload_n 1, 1) := by decide +kernel
theorem d_Mo_when_37 : decode b_Mo_when 37 = .ok (.istore 4, 2) := by decide +kernel
theorem d_Mo_when_39 : decode b_Mo_when 39 = .ok (.iload 4, 2) := by decide +kernel
theorem d_Mo_when_41 : decode b_Mo_when 41 = .ok (.aload_n 0, 1) := by decide +kernel
theorem d_Mo_when_42 : decode b_Mo_when 42 = .ok (.getfield 66, 3) := by decide +kernel
theorem d_Mo_when_45 : decode b_Mo_when 45 = .ok (.if_icmp .lt 23, 3) := by decide +kernel
theorem d_Mo_when_48 : decode b_Mo_when 48 = .ok (.aload_n 0, 1) := by decide +kernel
theorem d_Mo_when_49 : decode b_Mo_when 49 = .ok (.iload 4, 2) := by decide +kernel
theorem d_Mo_when_51 : decode b_Mo_when 51 = .ok (.iload_n 2, 1) := by decide +kernel
theorem d_Mo_when_52 : decode b_Mo_when 52 = .ok (.invokevirtual 101, 3) := by decide +kernel
theorem d_Mo_when_55 : decode b_Mo_when 55 = .ok (.iload_n 3, 1) := by decide +kernel
theorem d_Mo_when_56 : decode b_Mo_when 56 = .ok (.if_icmp .ne 6, 3) := by decide +kernel
theorem d_Mo_when_59 : decode b_Mo_when 59 = .ok (.iload 4, 2) := by decide +kernel
theorem d_Mo_when_61 : decode b_Mo_when 61 = .ok (.ireturn, 1) := by decide +kernel
theorem d_Mo_when_62 : decode b_Mo_when 62 = .ok (.iinc 4 (-1), 3) := by decide +kernel
theorem d_Mo_when_65 : decode b_Mo_when 65 = .ok (.goto (-26), 3) := by decide +kernel
theorem d_Mo_when_68 : decode b_Mo_when 68 = .ok (.iconst (-1), 1) := by decide +kernel
theorem d_Mo_when_69 : decode b_Mo_when 69 = .ok (.ireturn, 1) := by decide +kernel
theorem d_Mo_isSame_0 : decode b_Mo_isSame 0 = .ok (.iconst 1, 1) := by decide +kernel
theorem d_Mo_isSame_1 : decode b_Mo_isSame 1 = .ok (.istore_n 2, 1) := by decide +kernel
theorem d_Mo_isSame_2 : decode b_Mo_isSame 2 = .ok (.iconst 0, 1) := by decide +kernel
theorem d_Mo_isSame_3 : decode b_Mo_isSame 3 = .ok (.istore_n 3, 1) := by decide +kernel
theorem d_Mo_isSame_4 : decode b_Mo_isSame 4 = .ok (.iload_n 3, 1) := by decide +kernel
theorem d_Mo_isSame_5 : decode b_Mo_isSame 5 = .ok (.sipush 269, 3) := by decide +kernel
theorem d_Mo_isSame_8 : decode b_Mo_isSame 8 = .ok (.if_icmp .ge 34, 3) := by decide +kernel
theorem d_Mo_isSame_11 : decode b_Mo_isSame 11 = .ok (.iload_n 2, 1) := by decide +kernel
theorem d_Mo_isSame_12 : decode b_Mo_isSame 12 = .ok (.ifCond .eq 30, 3) := by decide +kernel
theorem d_Mo_isSame_15 : decode b_Mo_isSame 15 = .ok (.aload_n 0, 1) := by decide +kernel
theorem d_Mo_isSame_16 : decode b_Mo_isSame 16 = .ok (.getfield 19, 3) := by decide +kernel
theorem d_Mo_isSame_19 : decode b_Mo_isSame 19 = .ok (.iload_n 3, 1) := by decide +kernel
theorem d_Mo_isSame_20 : decode b_Mo_isSame 20 = .ok (.iaload, 1) := by decide +kernel
theorem d_Mo_isSame_21 : decode b_Mo_isSame 21 = .ok (.aload_n 0, 1) := by decide +kernel
theorem d_Mo_isSame_22 : decode b_Mo_isSame 22 = .ok (.iload_n 1, 1) := by decide +kernel
theorem d_Mo_isSame_23 : decode b_Mo_isSame 23 = .ok (.iload_n 3, 1) := by decide +kernel
theorem d_Mo_isSame_24 : decode b_Mo_isSame 24 = .ok (.invokevirtual 101, 3) := by decide +kernel
theorem d_Mo_isSame_27 : decode b_Mo_isSame 27 = .ok (.if_icmp .ne 7, 3) := by decide +kernel
theorem d_Mo_isSame_30 : decode b_Mo_isSame 30 = .ok (.iconst 1, 1) := by decide +kernel
theorem d_Mo_isSame_31 : decode b_Mo_isSame 31 = .ok (.goto 4, 3) := by decide +kernel
theorem d_Mo_isSame_34 : decode b_Mo_isSame 34 = .ok (.iconst 0, 1) := by decide +kernel
theorem d_Mo_isSame_35 : decode b_Mo_isSame 35 = .ok (.istore_n 2, 1) := by decide +kernel
theorem d_Mo_isSame_36 : decode b_Mo_isSame 36 = .ok (.iinc 3 1, 3) := by decide +kernel
theorem d_Mo_isSame_39 : decode b_Mo_isSame 39 = .ok (.goto (-35), 3) := by decide +kernel
theorem d_Mo_isSame_42 : decode b_Mo_isSame 42 = .ok (.iload_n 2, 1) := by decide +kernel
theorem d_Mo_isSame_43 : decode b_Mo_isSame 43 = .ok (.ireturn, 1) := by decide +kernel
theorem d_Mo_replay_0 : decode b_Mo_replay 0 = .ok (.aload_n 0, 1) := by decide +kernel
theorem d_Mo_replay_1 : decode b_Mo_replay 1 = .ok (.iconst 0, 1) := by decide +kernel
theorem d_Mo_replay_2 : decode b_Mo_replay 2 = .ok (.putfield 43, 3) := by decide +kernel
theorem d_Mo_replay_5 : decode b_Mo_replay 5 = .ok (.iconst 0, 1) := by decide +kernel
theorem d_Mo_replay_6 : decode b_Mo_replay 6 = .ok (.istore_n 1, 1) := by decide +kernel
theorem d_Mo_replay_7 : decode b_Mo_replay 7 = .ok (.iload_n 1, 1) := by decide +kernel
theorem d_Mo_replay_8 : decode b_Mo_replay 8 = .ok (.sipush 269, 3) := by decide +kernel
theorem d_Mo_replay_11 : decode b_Mo_replay 11 = .ok (.if_icmp .ge 24, 3) := by decide +kernel
theorem d_Mo_replay_14 : decode b_Mo_replay 14 = .ok (.aload_n 0, 1) := by decide +kernel
theorem d_Mo_replay_15 : decode b_Mo_replay 15 = .ok (.getfield 19, 3) := by decide +kernel
theorem d_Mo_replay_18 : decode b_Mo_replay 18 = .ok (.iload_n 1, 1) := by decide +kernel
theorem d_Mo_replay_19 : decode b_Mo_replay 19 = .ok (.aload_n 0, 1) := by decide +kernel
theorem d_Mo_replay_20 : decode b_Mo_replay 20 = .ok (.aload_n 0, 1) := by decide +kernel
theorem d_Mo_replay_21 : decode b_Mo_replay 21 = .ok (.getfield 66, 3) := by decide +kernel
theorem d_Mo_replay_24 : decode b_Mo_replay 24 = .ok (.iload_n 1, 1) := by decide +kernel
theorem d_Mo_replay_25 : decode b_Mo_replay 25 = .ok (.invokevirtual 101, 3) := by decide +kernel
theorem d_Mo_replay_28 : decode b_Mo_replay 28 = .ok (.iastore, 1) := by decide +kernel
theorem d_Mo_replay_29 : decode b_Mo_replay 29 = .ok (.iinc 1 1, 3) := by decide +kernel
theorem d_Mo_replay_32 : decode b_Mo_replay 32 = .ok (.goto (-25), 3) := by decide +kernel
theorem d_Mo_replay_35 : decode b_Mo_replay 35 = .ok (.aload_n 0, 1) := by decide +kernel
theorem d_Mo_replay_36 : decode b_Mo_replay 36 = .ok (.getfield 66, 3) := by decide +kernel
theorem d_Mo_replay_39 : decode b_Mo_replay 39 = .ok (.iconst 1, 1) := by decide +kernel
theorem d_Mo_replay_40 : decode b_Mo_replay 40 = .ok (.iadd, 1) := by decide +kernel
theorem d_Mo_replay_41 : decode b_Mo_replay 41 = .ok (.istore_n 1, 1) := by decide +kernel
theorem d_Mo_replay_42 : decode b_Mo_replay 42 = .ok (.iload_n 1, 1) := by decide +kernel
theorem d_Mo_replay_43 : decode b_Mo_replay 43 = .ok (.aload_n 0, 1) := by decide +kernel
theorem d_Mo_replay_44 : decode b_Mo_replay 44 = .ok (.getfield 57, 3) := by decide +kernel
theorem d_Mo_replay_47 : decode b_Mo_replay 47 = .ok (.if_icmp .gt 49, 3) := by decide +kernel
theorem d_Mo_replay_50 : decode b_Mo_replay 50 = .ok (.aload_n 0, 1) := by decide +kernel
theorem d_Mo_replay_51 : decode b_Mo_replay 51 = .ok (.getfield 19, 3) := by decide +kernel
theorem d_Mo_replay_54 : decode b_Mo_replay 54 = .ok (.sipush 268, 3) := by decide +kernel
theorem d_Mo_replay_57 : decode b_Mo_replay 57 = .ok (.iaload, 1) := by decide +kernel
theorem d_Mo_replay_58 : decode b_Mo_replay 58 = .ok (.ifCond .gt 30, 3) := by decide +kernel
theorem d_Mo_replay_61 : decode b_Mo_replay 61 = .ok (.aload_n 0, 1) := by decide +kernel
theorem d_Mo_replay_62 : decode b_Mo_replay 62 = .ok (.aload_n 0, 1) := by decide +kernel
theorem d_Mo_replay_63 : decode b_Mo_replay 63 = .ok (.getfield 19, 3) := by decide +kernel
theorem d_Mo_replay_66 : decode b_Mo_replay 66 = .ok (.aload_n 0, 1) := by decide +kernel
theorem d_Mo_replay_67 : decode b_Mo_replay 67 = .ok (.getfield 16, 3) := by decide +kernel
theorem d_Mo_replay_70 : decode b_Mo_replay 70 = .ok (.sipush 265, 3) := by decide +kernel
theorem d_Mo_replay_73 : decode b_Mo_replay 73 = .ok (.iaload, 1) := by decide +kernel
theorem d_Mo_replay_74 : decode b_Mo_replay 74 = .ok (.invokevirtual 82, 3) := by decide +kernel
theorem d_Mo_replay_77 : decode b_Mo_replay 77 = .ok (.ifCond .eq 11, 3) := by decide +kernel
theorem d_Mo_replay_80 : decode b_Mo_replay 80 = .ok (.aload_n 0, 1) := by decide +kernel
theorem d_Mo_replay_81 : decode b_Mo_replay 81 = .ok (.iload_n 1, 1) := by decide +kernel
theorem d_Mo_replay_82 : decode b_Mo_replay 82 = .ok (.invokevirtual 104, 3) := by decide +kernel
theorem d_Mo_replay_85 : decode b_Mo_replay 85 = .ok (.ifCond .ne 5, 3) := by decide +kernel
theorem d_Mo_replay_88 : decode b_Mo_replay 88 = .ok (.iload_n 1, 1) := by decide +kernel
theorem d_Mo_replay_89 : decode b_Mo_replay 89 = .ok (.ireturn, 1) := by decide +kernel
theorem d_Mo_replay_90 : decode b_Mo_replay 90 = .ok (.iinc 1 1, 3) := by decide +kernel
theorem d_Mo_replay_93 : decode b_Mo_replay 93 = .ok (.goto (-51), 3) := by decide +kernel
theorem d_Mo_replay_96 : decode b_Mo_replay 96 = .ok (.iconst (-1), 1) := by decide +kernel
theorem d_Mo_replay_97 : decode b_Mo_replay 97 = .ok (.ireturn, 1) := by decide +kernel
theorem d_Mo_cost_0 : decode b_Mo_cost 0 = .ok (.aload_n 0, 1) := by decide +kernel
theorem d_Mo_cost_1 : decode b_Mo_cost 1 = .ok (.iconst 0, 1) := by decide +kernel
theorem d_Mo_cost_2 : decode b_Mo_cost 2 = .ok (.putfield 43, 3) := by decide +kernel
theorem d_Mo_cost_5 : decode b_Mo_cost 5 = .ok (.iload_n 1, 1) := by decide +kernel
theorem d_Mo_cost_6 : decode b_Mo_cost 6 = .ok (.aload_n 0, 1) := by decide +kernel
theorem d_Mo_cost_7 : decode b_Mo_cost 7 = .ok (.getfield 66, 3) := by decide +kernel
theorem d_Mo_cost_10 : decode b_Mo_cost 10 = .ok (.aload_n 0, 1) := by decide +kernel
theorem d_Mo_cost_11 : decode b_Mo_cost 11 = .ok (.getfield 57, 3) := by decide +kernel
theorem d_Mo_cost_14 : decode b_Mo_cost 14 = .ok (.iconst 1, 1) := by decide +kernel
theorem d_Mo_cost_15 : decode b_Mo_cost 15 = .ok (.isub, 1) := by decide +kernel
theorem d_Mo_cost_16 : decode b_Mo_cost 16 = .ok (.invokestatic 46, 3) := by decide +kernel
theorem d_Mo_cost_19 : decode b_Mo_cost 19 = .ok (.ifCond .eq 15, 3) := by decide +kernel
theorem d_Mo_cost_22 : decode b_Mo_cost 22 = .ok (.aload_n 0, 1) := by decide +kernel
theorem d_Mo_cost_23 : decode b_Mo_cost 23 = .ok (.getfield 26, 3) := by decide +kernel
theorem d_Mo_cost_26 : decode b_Mo_cost 26 = .ok (.iload_n 1, 1) := by decide +kernel
theorem d_Mo_cost_27 : decode b_Mo_cost 27 = .ok (.invokestatic 60, 3) := by decide +kernel
theorem d_Mo_cost_30 : decode b_Mo_cost 30 = .ok (.iaload, 1) := by decide +kernel
theorem d_Mo_cost_31 : decode b_Mo_cost 31 = .ok (.goto 8, 3) := by decide +kernel
theorem d_Mo_cost_34 : decode b_Mo_cost 34 = .ok (.aload_n 0, 1) := by decide +kernel
theorem d_Mo_cost_35 : decode b_Mo_cost 35 = .ok (.iconst 1, 1) := by decide +kernel
theorem d_Mo_cost_36 : decode b_Mo_cost 36 = .ok (.invokevirtual 50, 3) := by decide +kernel
theorem d_Mo_cost_39 : decode b_Mo_cost 39 = .ok (.ireturn, 1) := by decide +kernel
theorem d_Mo_waits_0 : decode b_Mo_waits 0 = .ok (.aload_n 0, 1) := by decide +kernel
theorem d_Mo_waits_1 : decode b_Mo_waits 1 = .ok (.getfield 7, 3) := by decide +kernel
theorem d_Mo_waits_4 : decode b_Mo_waits 4 = .ok (.aload_n 0, 1) := by decide +kernel
theorem d_Mo_waits_5 : decode b_Mo_waits 5 = .ok (.getfield 16, 3) := by decide +kernel
theorem d_Mo_waits_8 : decode b_Mo_waits 8 = .ok (.sipush 264, 3) := by decide +kernel
theorem d_Mo_waits_11 : decode b_Mo_waits 11 = .ok (.iaload, 1) := by decide +kernel
theorem d_Mo_waits_12 : decode b_Mo_waits 12 = .ok (.iaload, 1) := by decide +kernel
theorem d_Mo_waits_13 : decode b_Mo_waits 13 = .ok (.invokestatic 69, 3) := by decide +kernel
theorem d_Mo_waits_16 : decode b_Mo_waits 16 = .ok (.bipush 8, 2) := by decide +kernel
theorem d_Mo_waits_18 : decode b_Mo_waits 18 = .ok (.if_icmp .ne 22, 3) := by decide +kernel
theorem d_Mo_waits_21 : decode b_Mo_waits 21 = .ok (.aload_n 0, 1) := by decide +kernel
theorem d_Mo_waits_22 : decode b_Mo_waits 22 = .ok (.getfield 16, 3) := by decide +kernel
theorem d_Mo_waits_25 : decode b_Mo_waits 25 = .ok (.sipush 265, 3) := by decide +kernel
theorem d_Mo_waits_28 : decode b_Mo_waits 28 = .ok (.iaload, 1) := by decide +kernel
theorem d_Mo_waits_29 : decode b_Mo_waits 29 = .ok (.aload_n 0, 1) := by decide +kernel
theorem d_Mo_waits_30 : decode b_Mo_waits 30 = .ok (.getfield 54, 3) := by decide +kernel
theorem d_Mo_waits_33 : decode b_Mo_waits 33 = .ok (.if_icmp .ne 7, 3) := by decide +kernel
theorem d_Mo_waits_36 : decode b_Mo_waits 36 = .ok (.iconst 1, 1) := by decide +kernel
theorem d_Mo_waits_37 : decode b_Mo_waits 37 = .ok (.goto 4, 3) := by decide +kernel
theorem d_Mo_waits_40 : decode b_Mo_waits 40 = .ok (.iconst 0, 1) := by decide +kernel
theorem d_Mo_waits_41 : decode b_Mo_waits 41 = .ok (.ireturn, 1) := by decide +kernel
theorem d_Mo_count_0 : decode b_Mo_count 0 = .ok (.aload_n 0, 1) := by decide +kernel
theorem d_Mo_count_1 : decode b_Mo_count 1 = .ok (.iconst 0, 1) := by decide +kernel
theorem d_Mo_count_2 : decode b_Mo_count 2 = .ok (.putfield 43, 3) := by decide +kernel
theorem d_Mo_count_5 : decode b_Mo_count 5 = .ok (.iload_n 1, 1) := by decide +kernel
theorem d_Mo_count_6 : decode b_Mo_count 6 = .ok (.iconst 0, 1) := by decide +kernel
theorem d_Mo_count_7 : decode b_Mo_count 7 = .ok (.bipush 6, 2) := by decide +kernel
theorem d_Mo_count_9 : decode b_Mo_count 9 = .ok (.invokestatic 46, 3) := by decide +kernel
theorem d_Mo_count_12 : decode b_Mo_count 12 = .ok (.ifCond .ne 5, 3) := by decide +kernel
theorem d_Mo_count_15 : decode b_Mo_count 15 = .ok (.iconst (-1), 1) := by decide +kernel
theorem d_Mo_count_16 : decode b_Mo_count 16 = .ok (.ireturn, 1) := by decide +kernel
theorem d_Mo_count_17 : decode b_Mo_count 17 = .ok (.iload_n 1, 1) := by decide +kernel
theorem d_Mo_count_18 : decode b_Mo_count 18 = .ok (.iconst 3, 1) := by decide +kernel
theorem d_Mo_count_19 : decode b_Mo_count 19 = .ok (.if_icmp .ge 31, 3) := by decide +kernel
theorem d_Mo_count_22 : decode b_Mo_count 22 = .ok (.iload_n 1, 1) := by decide +kernel
theorem d_Mo_count_23 : decode b_Mo_count 23 = .ok (.ifCond .ne 10, 3) := by decide +kernel
theorem d_Mo_count_26 : decode b_Mo_count 26 = .ok (.aload_n 0, 1) := by decide +kernel
theorem d_Mo_count_27 : decode b_Mo_count 27 = .ok (.getfield 57, 3) := by decide +kernel
theorem d_Mo_count_30 : decode b_Mo_count 30 = .ok (.goto 19, 3) := by decide +kernel
theorem d_Mo_count_33 : decode b_Mo_count 33 = .ok (.iload_n 1, 1) := by decide +kernel
theorem d_Mo_count_34 : decode b_Mo_count 34 = .ok (.iconst 1, 1) := by decide +kernel
theorem d_Mo_count_35 : decode b_Mo_count 35 = .ok (.if_icmp .ne 10, 3) := by decide +kernel
theorem d_Mo_count_38 : decode b_Mo_count 38 = .ok (.aload_n 0, 1) := by decide +kernel
theorem d_Mo_count_39 : decode b_Mo_count 39 = .ok (.getfield 66, 3) := by decide +kernel
theorem d_Mo_count_42 : decode b_Mo_count 42 = .ok (.goto 7, 3) := by decide +kernel
theorem d_Mo_count_45 : decode b_Mo_count 45 = .ok (.aload_n 0, 1) := by decide +kernel
theorem d_Mo_count_46 : decode b_Mo_count 46 = .ok (.invokevirtual 90, 3) := by decide +kernel
theorem d_Mo_count_49 : decode b_Mo_count 49 = .ok (.ireturn, 1) := by decide +kernel
theorem d_Mo_count_50 : decode b_Mo_count 50 = .ok (.iload_n 1, 1) := by decide +kernel
theorem d_Mo_count_51 : decode b_Mo_count 51 = .ok (.iconst 5, 1) := by decide +kernel
theorem d_Mo_count_52 : decode b_Mo_count 52 = .ok (.if_icmp .ge 20, 3) := by decide +kernel
theorem d_Mo_count_55 : decode b_Mo_count 55 = .ok (.iload_n 1, 1) := by decide +kernel
theorem d_Mo_count_56 : decode b_Mo_count 56 = .ok (.iconst 3, 1) := by decide +kernel
theorem d_Mo_count_57 : decode b_Mo_count 57 = .ok (.if_icmp .ne 10, 3) := by decide +kernel
theorem d_Mo_count_60 : decode b_Mo_count 60 = .ok (.aload_n 0, 1) := by decide +kernel
theorem d_Mo_count_61 : decode b_Mo_count 61 = .ok (.getfield 63, 3) := by decide +kernel
theorem d_Mo_count_64 : decode b_Mo_count 64 = .ok (.goto 7, 3) := by decide +kernel
theorem d_Mo_count_67 : decode b_Mo_count 67 = .ok (.aload_n 0, 1) := by decide +kernel
theorem d_Mo_count_68 : decode b_Mo_count 68 = .ok (.getfield 54, 3) := by decide +kernel
theorem d_Mo_count_71 : decode b_Mo_count 71 = .ok (.ireturn, 1) := by decide +kernel
theorem d_Mo_count_72 : decode b_Mo_count 72 = .ok (.iload_n 1, 1) := by decide +kernel
theorem d_Mo_count_73 : decode b_Mo_count 73 = .ok (.bipush 6, 2) := by decide +kernel
theorem d_Mo_count_75 : decode b_Mo_count 75 = .ok (.if_icmp .ne 38, 3) := by decide +kernel
theorem d_Mo_count_78 : decode b_Mo_count 78 = .ok (.aload_n 0, 1) := by decide +kernel
theorem d_Mo_count_79 : decode b_Mo_count 79 = .ok (.getfield 16, 3) := by decide +kernel
theorem d_Mo_count_82 : decode b_Mo_count 82 = .ok (.sipush 268, 3) := by decide +kernel
theorem d_Mo_count_85 : decode b_Mo_count 85 = .ok (.iaload, 1) := by decide +kernel
theorem d_Mo_count_86 : decode b_Mo_count 86 = .ok (.ifCond .le 14, 3) := by decide +kernel
theorem d_Mo_count_89 : decode b_Mo_count 89 = .ok (.aload_n 0, 1) := by decide +kernel
theorem d_Mo_count_90 : decode b_Mo_count 90 = .ok (.getfield 16, 3) := by decide +kernel
theorem d_Mo_count_93 : decode b_Mo_count 93 = .ok (.sipush 268, 3) := by decide +kernel
theorem d_Mo_count_96 : decode b_Mo_count 96 = .ok (.iaload, 1) := by decide +kernel
theorem d_Mo_count_97 : decode b_Mo_count 97 = .ok (.goto 15, 3) := by decide +kernel
theorem d_Mo_count_100 : decode b_Mo_count 100 = .ok (.aload_n 0, 1) := by decide +kernel
theorem d_Mo_count_101 : decode b_Mo_count 101 = .ok (.invokevirtual 107, 3) := by decide +kernel
theorem d_Mo_count_104 : decode b_Mo_count 104 = .ok (.ifCond .eq 7, 3) := by decide +kernel
theorem d_Mo_count_107 : decode b_Mo_count 107 = .ok (.iconst 3, 1) := by decide +kernel
theorem d_Mo_count_108 : decode b_Mo_count 108 = .ok (.goto 4, 3) := by decide +kernel
theorem d_Mo_count_111 : decode b_Mo_count 111 = .ok (.iconst 0, 1) := by decide +kernel
theorem d_Mo_count_112 : decode b_Mo_count 112 = .ok (.ireturn, 1) := by decide +kernel
theorem d_Mo_count_113 : decode b_Mo_count 113 = .ok (.iconst 0, 1) := by decide +kernel
theorem d_Mo_count_114 : decode b_Mo_count 114 = .ok (.istore_n 2, 1) := by decide +kernel
theorem d_Mo_count_115 : decode b_Mo_count 115 = .ok (.aload_n 0, 1) := by decide +kernel
theorem d_Mo_count_116 : decode b_Mo_count 116 = .ok (.getfield 66, 3) := by decide +kernel
theorem d_Mo_count_119 : decode b_Mo_count 119 = .ok (.istore_n 3, 1) := by decide +kernel
theorem d_Mo_count_120 : decode b_Mo_count 120 = .ok (.iload_n 3, 1) := by decide +kernel
theorem d_Mo_count_121 : decode b_Mo_count 121 = .ok (.aload_n 0, 1) := by decide +kernel
theorem d_Mo_count_122 : decode b_Mo_count 122 = .ok (.getfield 57, 3) := by decide +kernel
theorem d_Mo_count_125 : decode b_Mo_count 125 = .ok (.if_icmp .gt 26, 3) := by decide +kernel
theorem d_Mo_count_128 : decode b_Mo_count 128 = .ok (.iload_n 2, 1) := by decide +kernel
theorem d_Mo_count_129 : decode b_Mo_count 129 = .ok (.iload_n 3, 1) := by decide +kernel
theorem d_Mo_count_130 : decode b_Mo_count 130 = .ok (.aload_n 0, 1) := by decide +kernel
theorem d_Mo_count_131 : decode b_Mo_count 131 = .ok (.getfield 40, 3) := by decide +kernel
theorem d_Mo_count_134 : decode b_Mo_count 134 = .ok (.irem, 1) := by decide +kernel
theorem d_Mo_count_135 : decode b_Mo_count 135 = .ok (.ifCond .ne 7, 3) := by decide +kernel
theorem d_Mo_count_138 : decode b_Mo_count 138 = .ok (.iconst 1, 1) := by decide +kernel
theorem d_Mo_count_139 : decode b_Mo_count 139 = .ok (.goto 4, 3) := by decide +kernel
theorem d_Mo_count_142 : decode b_Mo_count 142 = .ok (.iconst 0, 1) := by decide +kernel
theorem d_Mo_count_143 : decode b_Mo_count 143 = .ok (.iadd, 1) := by decide +kernel
theorem d_Mo_count_144 : decode b_Mo_count 144 = .ok (.istore_n 2, 1) := by decide +kernel
theorem d_Mo_count_145 : decode b_Mo_count 145 = .ok (.iinc 3 1, 3) := by decide +kernel
theorem d_Mo_count_148 : decode b_Mo_count 148 = .ok (.goto (-28), 3) := by decide +kernel
theorem d_Mo_count_151 : decode b_Mo_count 151 = .ok (.iload_n 2, 1) := by decide +kernel
theorem d_Mo_count_152 : decode b_Mo_count 152 = .ok (.ireturn, 1) := by decide +kernel
end
section
theorem d_La_cell_0 : decode b_La_cell 0 = .ok (.iload_n 1, 1) := by decide +kernel
theorem d_La_cell_1 : decode b_La_cell 1 = .ok (.aload_n 0, 1) := by decide +kernel
theorem d_La_cell_2 : decode b_La_cell 2 = .ok (.arraylength, 1) := by decide +kernel
theorem d_La_cell_3 : decode b_La_cell 3 = .ok (.if_icmp .ge 9, 3) := by decide +kernel
theorem d_La_cell_6 : decode b_La_cell 6 = .ok (.aload_n 0, 1) := by decide +kernel
theorem d_La_cell_7 : decode b_La_cell 7 = .ok (.iload_n 1, 1) := by decide +kernel
theorem d_La_cell_8 : decode b_La_cell 8 = .ok (.iaload, 1) := by decide +kernel
theorem d_La_cell_9 : decode b_La_cell 9 = .ok (.goto 4, 3) := by decide +kernel
theorem d_La_cell_12 : decode b_La_cell 12 = .ok (.iconst 0, 1) := by decide +kernel
theorem d_La_cell_13 : decode b_La_cell 13 = .ok (.ireturn, 1) := by decide +kernel
theorem d_La_program_0 : decode b_La_program 0 = .ok (.aload_n 3, 1) := by decide +kernel
theorem d_La_program_1 : decode b_La_program 1 = .ok (.iconst 0, 1) := by decide +kernel
theorem d_La_program_2 : decode b_La_program 2 = .ok (.aload_n 0, 1) := by decide +kernel
theorem d_La_program_3 : decode b_La_program 3 = .ok (.iload_n 1, 1) := by decide +kernel
theorem d_La_program_4 : decode b_La_program 4 = .ok (.iload_n 2, 1) := by decide +kernel
theorem d_La_program_5 : decode b_La_program 5 = .ok (.invokevirtual 7, 3) := by decide +kernel
theorem d_La_program_8 : decode b_La_program 8 = .ok (.i2l, 1) := by decide +kernel
theorem d_La_program_9 : decode b_La_program 9 = .ok (.lastore, 1) := by decide +kernel
theorem d_La_program_10 : decode b_La_program 10 = .ok (.goto 7, 3) := by decide +kernel
theorem d_La_program_13 : decode b_La_program 13 = .ok (.astore 4, 2) := by decide +kernel
theorem d_La_program_15 : decode b_La_program 15 = .ok (.iconst 1, 1) := by decide +kernel
theorem d_La_program_16 : decode b_La_program 16 = .ok (.ireturn, 1) := by decide +kernel
theorem d_La_program_17 : decode b_La_program 17 = .ok (.iconst 0, 1) := by decide +kernel
theorem d_La_program_18 : decode b_La_program 18 = .ok (.ireturn, 1) := by decide +kernel
theorem d_La_input_0 : decode b_La_input 0 = .ok (.aload_n 2, 1) := by decide +kernel
theorem d_La_input_1 : decode b_La_input 1 = .ok (.iconst 0, 1) := by decide +kernel
theorem d_La_input_2 : decode b_La_input 2 = .ok (.aload_n 0, 1) := by decide +kernel
theorem d_La_input_3 : decode b_La_input 3 = .ok (.iload_n 1, 1) := by decide +kernel
theorem d_La_input_4 : decode b_La_input 4 = .ok (.invokevirtual 15, 3) := by decide +kernel
theorem d_La_input_7 : decode b_La_input 7 = .ok (.i2l, 1) := by decide +kernel
theorem d_La_input_8 : decode b_La_input 8 = .ok (.lastore, 1) := by decide +kernel
theorem d_La_input_9 : decode b_La_input 9 = .ok (.goto 6, 3) := by decide +kernel
theorem d_La_input_12 : decode b_La_input 12 = .ok (.astore_n 3, 1) := by decide +kernel
theorem d_La_input_13 : decode b_La_input 13 = .ok (.iconst 1, 1) := by decide +kernel
theorem d_La_input_14 : decode b_La_input 14 = .ok (.ireturn, 1) := by decide +kernel
theorem d_La_input_15 : decode b_La_input 15 = .ok (.iconst 0, 1) := by decide +kernel
theorem d_La_input_16 : decode b_La_input 16 = .ok (.ireturn, 1) := by decide +kernel
theorem d_La_poke_0 : decode b_La_poke 0 = .ok (.aload_n 3, 1) := by decide +kernel
theorem d_La_poke_1 : decode b_La_poke 1 = .ok (.iconst 0, 1) := by decide +kernel
theorem d_La_poke_2 : decode b_La_poke 2 = .ok (.aload_n 0, 1) := by decide +kernel
theorem d_La_poke_3 : decode b_La_poke 3 = .ok (.iload_n 1, 1) := by decide +kernel
theorem d_La_poke_4 : decode b_La_poke 4 = .ok (.iload_n 2, 1) := by decide +kernel
theorem d_La_poke_5 : decode b_La_poke 5 = .ok (.invokevirtual 21, 3) := by decide +kernel
theorem d_La_poke_8 : decode b_La_poke 8 = .ok (.i2l, 1) := by decide +kernel
theorem d_La_poke_9 : decode b_La_poke 9 = .ok (.lastore, 1) := by decide +kernel
theorem d_La_poke_10 : decode b_La_poke 10 = .ok (.goto 7, 3) := by decide +kernel
theorem d_La_poke_13 : decode b_La_poke 13 = .ok (.astore 4, 2) := by decide +kernel
theorem d_La_poke_15 : decode b_La_poke 15 = .ok (.iconst 1, 1) := by decide +kernel
theorem d_La_poke_16 : decode b_La_poke 16 = .ok (.ireturn, 1) := by decide +kernel
theorem d_La_poke_17 : decode b_La_poke 17 = .ok (.iconst 0, 1) := by decide +kernel
theorem d_La_poke_18 : decode b_La_poke 18 = .ok (.ireturn, 1) := by decide +kernel
theorem d_La_step_0 : decode b_La_step 0 = .ok (.aload_n 2, 1) := by decide +kernel
theorem d_La_step_1 : decode b_La_step 1 = .ok (.iconst 0, 1) := by decide +kernel
theorem d_La_step_2 : decode b_La_step 2 = .ok (.aload_n 0, 1) := by decide +kernel
theorem d_La_step_3 : decode b_La_step 3 = .ok (.iload_n 1, 1) := by decide +kernel
theorem d_La_step_4 : decode b_La_step 4 = .ok (.invokevirtual 24, 3) := by decide +kernel
theorem d_La_step_7 : decode b_La_step 7 = .ok (.i2l, 1) := by decide +kernel
theorem d_La_step_8 : decode b_La_step 8 = .ok (.lastore, 1) := by decide +kernel
theorem d_La_step_9 : decode b_La_step 9 = .ok (.goto 6, 3) := by decide +kernel
theorem d_La_step_12 : decode b_La_step 12 = .ok (.astore_n 3, 1) := by decide +kernel
theorem d_La_step_13 : decode b_La_step 13 = .ok (.iconst 1, 1) := by decide +kernel
theorem d_La_step_14 : decode b_La_step 14 = .ok (.ireturn, 1) := by decide +kernel
theorem d_La_step_15 : decode b_La_step 15 = .ok (.iconst 0, 1) := by decide +kernel
theorem d_La_step_16 : decode b_La_step 16 = .ok (.ireturn, 1) := by decide +kernel
theorem d_La_back_0 : decode b_La_back 0 = .ok (.aload_n 2, 1) := by decide +kernel
theorem d_La_back_1 : decode b_La_back 1 = .ok (.iconst 0, 1) := by decide +kernel
theorem d_La_back_2 : decode b_La_back 2 = .ok (.aload_n 0, 1) := by decide +kernel
theorem d_La_back_3 : decode b_La_back 3 = .ok (.iload_n 1, 1) := by decide +kernel
theorem d_La_back_4 : decode b_La_back 4 = .ok (.invokevirtual 29, 3) := by decide +kernel
theorem d_La_back_7 : decode b_La_back 7 = .ok (.i2l, 1) := by decide +kernel
theorem d_La_back_8 : decode b_La_back 8 = .ok (.lastore, 1) := by decide +kernel
theorem d_La_back_9 : decode b_La_back 9 = .ok (.goto 6, 3) := by decide +kernel
theorem d_La_back_12 : decode b_La_back 12 = .ok (.astore_n 3, 1) := by decide +kernel
theorem d_La_back_13 : decode b_La_back 13 = .ok (.iconst 1, 1) := by decide +kernel
theorem d_La_back_14 : decode b_La_back 14 = .ok (.ireturn, 1) := by decide +kernel
theorem d_La_back_15 : decode b_La_back 15 = .ok (.iconst 0, 1) := by decide +kernel
theorem d_La_back_16 : decode b_La_back 16 = .ok (.ireturn, 1) := by decide +kernel
theorem d_La_look_0 : decode b_La_look 0 = .ok (.aload_n 3, 1) := by decide +kernel
theorem d_La_look_1 : decode b_La_look 1 = .ok (.iconst 0, 1) := by decide +kernel
theorem d_La_look_2 : decode b_La_look 2 = .ok (.aload_n 0, 1) := by decide +kernel
theorem d_La_look_3 : decode b_La_look 3 = .ok (.iload_n 1, 1) := by decide +kernel
theorem d_La_look_4 : decode b_La_look 4 = .ok (.iload_n 2, 1) := by decide +kernel
theorem d_La_look_5 : decode b_La_look 5 = .ok (.invokevirtual 32, 3) := by decide +kernel
theorem d_La_look_8 : decode b_La_look 8 = .ok (.i2l, 1) := by decide +kernel
theorem d_La_look_9 : decode b_La_look 9 = .ok (.lastore, 1) := by decide +kernel
theorem d_La_look_10 : decode b_La_look 10 = .ok (.goto 11, 3) := by decide +kernel
theorem d_La_look_13 : decode b_La_look 13 = .ok (.astore 4, 2) := by decide +kernel
theorem d_La_look_15 : decode b_La_look 15 = .ok (.iconst 1, 1) := by decide +kernel
theorem d_La_look_16 : decode b_La_look 16 = .ok (.ireturn, 1) := by decide +kernel
theorem d_La_look_17 : decode b_La_look 17 = .ok (.astore 4, 2) := by decide +kernel
theorem d_La_look_19 : decode b_La_look 19 = .ok (.iconst 2, 1) := by decide +kernel
theorem d_La_look_20 : decode b_La_look 20 = .ok (.ireturn, 1) := by decide +kernel
theorem d_La_look_21 : decode b_La_look 21 = .ok (.iconst 0, 1) := by decide +kernel
theorem d_La_look_22 : decode b_La_look 22 = .ok (.ireturn, 1) := by decide +kernel
theorem d_La_wrote_0 : decode b_La_wrote 0 = .ok (.aload_n 2, 1) := by decide +kernel
theorem d_La_wrote_1 : decode b_La_wrote 1 = .ok (.iconst 0, 1) := by decide +kernel
theorem d_La_wrote_2 : decode b_La_wrote 2 = .ok (.aload_n 0, 1) := by decide +kernel
theorem d_La_wrote_3 : decode b_La_wrote 3 = .ok (.iload_n 1, 1) := by decide +kernel
theorem d_La_wrote_4 : decode b_La_wrote 4 = .ok (.invokevirtual 35, 3) := by decide +kernel
theorem d_La_wrote_7 : decode b_La_wrote 7 = .ok (.i2l, 1) := by decide +kernel
theorem d_La_wrote_8 : decode b_La_wrote 8 = .ok (.lastore, 1) := by decide +kernel
theorem d_La_wrote_9 : decode b_La_wrote 9 = .ok (.goto 6, 3) := by decide +kernel
theorem d_La_wrote_12 : decode b_La_wrote 12 = .ok (.astore_n 3, 1) := by decide +kernel
theorem d_La_wrote_13 : decode b_La_wrote 13 = .ok (.iconst 1, 1) := by decide +kernel
theorem d_La_wrote_14 : decode b_La_wrote 14 = .ok (.ireturn, 1) := by decide +kernel
theorem d_La_wrote_15 : decode b_La_wrote 15 = .ok (.iconst 0, 1) := by decide +kernel
theorem d_La_wrote_16 : decode b_La_wrote 16 = .ok (.ireturn, 1) := by decide +kernel
theorem d_La_when_0 : decode b_La_when 0 = .ok (.aload 4, 2) := by decide +kernel
theorem d_La_when_2 : decode b_La_when 2 = .ok (.iconst 0, 1) := by decide +kernel
theorem d_La_when_3 : decode b_La_when 3 = .ok (.aload_n 0, 1) := by decide +kernel
theorem d_La_when_4 : decode b_La_when 4 = .ok (.iload_n 1, 1) := by decide +kernel
theorem d_La_when_5 : decode b_La_when 5 = .ok (.iload_n 2, 1) := by decide +kernel
theorem d_La_when_6 : decode b_La_when 6 = .ok (.iload_n 3, 1) := by decide +kernel
theorem d_La_when_7 : decode b_La_when 7 = .ok (.invokevirtual 38, 3) := by decide +kernel
theorem d_La_when_10 : decode b_La_when 10 = .ok (.i2l, 1) := by decide +kernel
theorem d_La_when_11 : decode b_La_when 11 = .ok (.lastore, 1) := by decide +kernel
theorem d_La_when_12 : decode b_La_when 12 = .ok (.goto 11, 3) := by decide +kernel
theorem d_La_when_15 : decode b_La_when 15 = .ok (.astore 5, 2) := by decide +kernel
theorem d_La_when_17 : decode b_La_when 17 = .ok (.iconst 1, 1) := by decide +kernel
theorem d_La_when_18 : decode b_La_when 18 = .ok (.ireturn, 1) := by decide +kernel
theorem d_La_when_19 : decode b_La_when 19 = .ok (.astore 5, 2) := by decide +kernel
theorem d_La_when_21 : decode b_La_when 21 = .ok (.iconst 2, 1) := by decide +kernel
theorem d_La_when_22 : decode b_La_when 22 = .ok (.ireturn, 1) := by decide +kernel
theorem d_La_when_23 : decode b_La_when 23 = .ok (.iconst 0, 1) := by decide +kernel
theorem d_La_when_24 : decode b_La_when 24 = .ok (.ireturn, 1) := by decide +kernel
theorem d_La_cost_0 : decode b_La_cost 0 = .ok (.aload_n 2, 1) := by decide +kernel
theorem d_La_cost_1 : decode b_La_cost 1 = .ok (.iconst 0, 1) := by decide +kernel
theorem d_La_cost_2 : decode b_La_cost 2 = .ok (.aload_n 0, 1) := by decide +kernel
theorem d_La_cost_3 : decode b_La_cost 3 = .ok (.iload_n 1, 1) := by decide +kernel
theorem d_La_cost_4 : decode b_La_cost 4 = .ok (.invokevirtual 42, 3) := by decide +kernel
theorem d_La_cost_7 : decode b_La_cost 7 = .ok (.i2l, 1) := by decide +kernel
theorem d_La_cost_8 : decode b_La_cost 8 = .ok (.lastore, 1) := by decide +kernel
theorem d_La_cost_9 : decode b_La_cost 9 = .ok (.goto 6, 3) := by decide +kernel
theorem d_La_cost_12 : decode b_La_cost 12 = .ok (.astore_n 3, 1) := by decide +kernel
theorem d_La_cost_13 : decode b_La_cost 13 = .ok (.iconst 1, 1) := by decide +kernel
theorem d_La_cost_14 : decode b_La_cost 14 = .ok (.ireturn, 1) := by decide +kernel
theorem d_La_cost_15 : decode b_La_cost 15 = .ok (.iconst 0, 1) := by decide +kernel
theorem d_La_cost_16 : decode b_La_cost 16 = .ok (.ireturn, 1) := by decide +kernel
theorem d_La_law_0 : decode b_La_law 0 = .ok (.new 8, 3) := by decide +kernel
theorem d_La_law_3 : decode b_La_law 3 = .ok (.dup, 1) := by decide +kernel
theorem d_La_law_4 : decode b_La_law 4 = .ok (.aload_n 0, 1) := by decide +kernel
theorem d_La_law_5 : decode b_La_law 5 = .ok (.iconst 0, 1) := by decide +kernel
theorem d_La_law_6 : decode b_La_law 6 = .ok (.invokestatic 45, 3) := by decide +kernel
theorem d_La_law_9 : decode b_La_law 9 = .ok (.aload_n 0, 1) := by decide +kernel
theorem d_La_law_10 : decode b_La_law 10 = .ok (.iconst 1, 1) := by decide +kernel
theorem d_La_law_11 : decode b_La_law 11 = .ok (.invokestatic 45, 3) := by decide +kernel
theorem d_La_law_14 : decode b_La_law 14 = .ok (.invokespecial 51, 3) := by decide +kernel
theorem d_La_law_17 : decode b_La_law 17 = .ok (.astore_n 1, 1) := by decide +kernel
theorem d_La_law_18 : decode b_La_law 18 = .ok (.new 54, 3) := by decide +kernel
theorem d_La_law_21 : decode b_La_law 21 = .ok (.dup, 1) := by decide +kernel
theorem d_La_law_22 : decode b_La_law 22 = .ok (.aload_n 0, 1) := by decide +kernel
theorem d_La_law_23 : decode b_La_law 23 = .ok (.iconst 0, 1) := by decide +kernel
theorem d_La_law_24 : decode b_La_law 24 = .ok (.invokestatic 45, 3) := by decide +kernel
theorem d_La_law_27 : decode b_La_law 27 = .ok (.aload_n 0, 1) := by decide +kernel
theorem d_La_law_28 : decode b_La_law 28 = .ok (.iconst 1, 1) := by decide +kernel
theorem d_La_law_29 : decode b_La_law 29 = .ok (.invokestatic 45, 3) := by decide +kernel
theorem d_La_law_32 : decode b_La_law 32 = .ok (.invokespecial 56, 3) := by decide +kernel
theorem d_La_law_35 : decode b_La_law 35 = .ok (.astore_n 2, 1) := by decide +kernel
theorem d_La_law_36 : decode b_La_law 36 = .ok (.iconst 1, 1) := by decide +kernel
theorem d_La_law_37 : decode b_La_law 37 = .ok (.newarray .long, 2) := by decide +kernel
theorem d_La_law_39 : decode b_La_law 39 = .ok (.astore_n 3, 1) := by decide +kernel
theorem d_La_law_40 : decode b_La_law 40 = .ok (.iconst 2, 1) := by decide +kernel
theorem d_La_law_41 : decode b_La_law 41 = .ok (.istore 4, 2) := by decide +kernel
theorem d_La_law_43 : decode b_La_law 43 = .ok (.iload 4, 2) := by decide +kernel
theorem d_La_law_45 : decode b_La_law 45 = .ok (.aload_n 0, 1) := by decide +kernel
theorem d_La_law_46 : decode b_La_law 46 = .ok (.arraylength, 1) := by decide +kernel
theorem d_La_law_47 : decode b_La_law 47 = .ok (.iconst 4, 1) := by decide +kernel
theorem d_La_law_48 : decode b_La_law 48 = .ok (.isub, 1) := by decide +kernel
theorem d_La_law_49 : decode b_La_law 49 = .ok (.if_icmp .gt 675, 3) := by decide +kernel
theorem d_La_law_52 : decode b_La_law 52 = .ok (.aload_n 0, 1) := by decide +kernel
theorem d_La_law_53 : decode b_La_law 53 = .ok (.iload 4, 2) := by decide +kernel
theorem d_La_law_55 : decode b_La_law 55 = .ok (.iaload, 1) := by decide +kernel
theorem d_La_law_56 : decode b_La_law 56 = .ok (.bipush 15, 2) := by decide +kernel
theorem d_La_law_58 : decode b_La_law 58 = .ok (.iand, 1) := by decide +kernel
theorem d_La_law_59 : decode b_La_law 59 = .ok (.tableswitch 659 0 10 #[57, 125, 181, 249, 305, 361, 429, 485, 565, 578, 634], 57) := by decide +kernel
theorem d_La_law_116 : decode b_La_law 116 = .ok (.aload_n 1, 1) := by decide +kernel
theorem d_La_law_117 : decode b_La_law 117 = .ok (.aload_n 0, 1) := by decide +kernel
theorem d_La_law_118 : decode b_La_law 118 = .ok (.iload 4, 2) := by decide +kernel
theorem d_La_law_120 : decode b_La_law 120 = .ok (.iconst 1, 1) := by decide +kernel
theorem d_La_law_121 : decode b_La_law 121 = .ok (.iadd, 1) := by decide +kernel
theorem d_La_law_122 : decode b_La_law 122 = .ok (.iaload, 1) := by decide +kernel
theorem d_La_law_123 : decode b_La_law 123 = .ok (.aload_n 0, 1) := by decide +kernel
theorem d_La_law_124 : decode b_La_law 124 = .ok (.iload 4, 2) := by decide +kernel
theorem d_La_law_126 : decode b_La_law 126 = .ok (.iconst 2, 1) := by decide +kernel
theorem d_La_law_127 : decode b_La_law 127 = .ok (.iadd, 1) := by decide +kernel
theorem d_La_law_128 : decode b_La_law 128 = .ok (.iaload, 1) := by decide +kernel
theorem d_La_law_129 : decode b_La_law 129 = .ok (.aload_n 3, 1) := by decide +kernel
theorem d_La_law_130 : decode b_La_law 130 = .ok (.invokestatic 57, 3) := by decide +kernel
theorem d_La_law_133 : decode b_La_law 133 = .ok (.istore 5, 2) := by decide +kernel
theorem d_La_law_135 : decode b_La_law 135 = .ok (.aload_n 2, 1) := by decide +kernel
theorem d_La_law_136 : decode b_La_law 136 = .ok (.aload_n 0, 1) := by decide +kernel
theorem d_La_law_137 : decode b_La_law 137 = .ok (.iload 4, 2) := by decide +kernel
theorem d_La_law_139 : decode b_La_law 139 = .ok (.iconst 1, 1) := by decide +kernel
theorem d_La_law_140 : decode b_La_law 140 = .ok (.iadd, 1) := by decide +kernel
theorem d_La_law_141 : decode b_La_law 141 = .ok (.iaload, 1) := by decide +kernel
theorem d_La_law_142 : decode b_La_law 142 = .ok (.aload_n 0, 1) := by decide +kernel
theorem d_La_law_143 : decode b_La_law 143 = .ok (.iload 4, 2) := by decide +kernel
theorem d_La_law_145 : decode b_La_law 145 = .ok (.iconst 2, 1) := by decide +kernel
theorem d_La_law_146 : decode b_La_law 146 = .ok (.iadd, 1) := by decide +kernel
theorem d_La_law_147 : decode b_La_law 147 = .ok (.iaload, 1) := by decide +kernel
theorem d_La_law_148 : decode b_La_law 148 = .ok (.invokevirtual 60, 3) := by decide +kernel
theorem d_La_law_151 : decode b_La_law 151 = .ok (.istore 6, 2) := by decide +kernel
theorem d_La_law_153 : decode b_La_law 153 = .ok (.aload_n 2, 1) := by decide +kernel
theorem d_La_law_154 : decode b_La_law 154 = .ok (.invokevirtual 61, 3) := by decide +kernel
theorem d_La_law_157 : decode b_La_law 157 = .ok (.iload 5, 2) := by decide +kernel
theorem d_La_law_159 : decode b_La_law 159 = .ok (.if_icmp .eq 5, 3) := by decide +kernel
theorem d_La_law_162 : decode b_La_law 162 = .ok (.iconst 0, 1) := by decide +kernel
theorem d_La_law_163 : decode b_La_law 163 = .ok (.ireturn, 1) := by decide +kernel
theorem d_La_law_164 : decode b_La_law 164 = .ok (.iload 5, 2) := by decide +kernel
theorem d_La_law_166 : decode b_La_law 166 = .ok (.ifCond .ne 15, 3) := by decide +kernel
theorem d_La_law_169 : decode b_La_law 169 = .ok (.aload_n 3, 1) := by decide +kernel
theorem d_La_law_170 : decode b_La_law 170 = .ok (.iconst 0, 1) := by decide +kernel
theorem d_La_law_171 : decode b_La_law 171 = .ok (.laload, 1) := by decide +kernel
theorem d_La_law_172 : decode b_La_law 172 = .ok (.iload 6, 2) := by decide +kernel
theorem d_La_law_174 : decode b_La_law 174 = .ok (.i2l, 1) := by decide +kernel
theorem d_La_law_175 : decode b_La_law 175 = .ok (.lcmp, 1) := by decide +kernel
theorem d_La_law_176 : decode b_La_law 176 = .ok (.ifCond .eq 5, 3) := by decide +kernel
theorem d_La_law_179 : decode b_La_law 179 = .ok (.iconst 0, 1) := by decide +kernel
theorem d_La_law_180 : decode b_La_law 180 = .ok (.ireturn, 1) := by decide +kernel
theorem d_La_law_181 : decode b_La_law 181 = .ok (.goto 537, 3) := by decide +kernel
theorem d_La_law_184 : decode b_La_law 184 = .ok (.aload_n 1, 1) := by decide +kernel
theorem d_La_law_185 : decode b_La_law 185 = .ok (.aload_n 0, 1) := by decide +kernel
theorem d_La_law_186 : decode b_La_law 186 = .ok (.iload 4, 2) := by decide +kernel
theorem d_La_law_188 : decode b_La_law 188 = .ok (.iconst 1, 1) := by decide +kernel
theorem d_La_law_189 : decode b_La_law 189 = .ok (.iadd, 1) := by decide +kernel
theorem d_La_law_190 : decode b_La_law 190 = .ok (.iaload, 1) := by decide +kernel
theorem d_La_law_191 : decode b_La_law 191 = .ok (.aload_n 3, 1) := by decide +kernel
theorem d_La_law_192 : decode b_La_law 192 = .ok (.invokestatic 65, 3) := by decide +kernel
theorem d_La_law_195 : decode b_La_law 195 = .ok (.istore 5, 2) := by decide +kernel
theorem d_La_law_197 : decode b_La_law 197 = .ok (.aload_n 2, 1) := by decide +kernel
theorem d_La_law_198 : decode b_La_law 198 = .ok (.aload_n 0, 1) := by decide +kernel
theorem d_La_law_199 : decode b_La_law 199 = .ok (.iload 4, 2) := by decide +kernel
theorem d_La_law_201 : decode b_La_law 201 = .ok (.iconst 1, 1) := by decide +kernel
theorem d_La_law_202 : decode b_La_law 202 = .ok (.iadd, 1) := by decide +kernel
theorem d_La_law_203 : decode b_La_law 203 = .ok (.iaload, 1) := by decide +kernel
theorem d_La_law_204 : decode b_La_law 204 = .ok (.invokevirtual 68, 3) := by decide +kernel
theorem d_La_law_207 : decode b_La_law 207 = .ok (.istore 6, 2) := by decide +kernel
theorem d_La_law_209 : decode b_La_law 209 = .ok (.aload_n 2, 1) := by decide +kernel
theorem d_La_law_210 : decode b_La_law 210 = .ok (.invokevirtual 61, 3) := by decide +kernel
theorem d_La_law_213 : decode b_La_law 213 = .ok (.iload 5, 2) := by decide +kernel
theorem d_La_law_215 : decode b_La_law 215 = .ok (.if_icmp .eq 5, 3) := by decide +kernel
theorem d_La_law_218 : decode b_La_law 218 = .ok (.iconst 0, 1) := by decide +kernel
theorem d_La_law_219 : decode b_La_law 219 = .ok (.ireturn, 1) := by decide +kernel
theorem d_La_law_220 : decode b_La_law 220 = .ok (.iload 5, 2) := by decide +kernel
theorem d_La_law_222 : decode b_La_law 222 = .ok (.ifCond .ne 15, 3) := by decide +kernel
theorem d_La_law_225 : decode b_La_law 225 = .ok (.aload_n 3, 1) := by decide +kernel
theorem d_La_law_226 : decode b_La_law 226 = .ok (.iconst 0, 1) := by decide +kernel
theorem d_La_law_227 : decode b_La_law 227 = .ok (.laload, 1) := by decide +kernel
theorem d_La_law_228 : decode b_La_law 228 = .ok (.iload 6, 2) := by decide +kernel
theorem d_La_law_230 : decode b_La_law 230 = .ok (.i2l, 1) := by decide +kernel
theorem d_La_law_231 : decode b_La_law 231 = .ok (.lcmp, 1) := by decide +kernel
theorem d_La_law_232 : decode b_La_law 232 = .ok (.ifCond .eq 5, 3) := by decide +kernel
theorem d_La_law_235 : decode b_La_law 235 = .ok (.iconst 0, 1) := by decide +kernel
theorem d_La_law_236 : decode b_La_law 236 = .ok (.ireturn, 1) := by decide +kernel
theorem d_La_law_237 : decode b_La_law 237 = .ok (.goto 481, 3) := by decide +kernel
theorem d_La_law_240 : decode b_La_law 240 = .ok (.aload_n 1, 1) := by decide +kernel
theorem d_La_law_241 : decode b_La_law 241 = .ok (.aload_n 0, 1) := by decide +kernel
theorem d_La_law_242 : decode b_La_law 242 = .ok (.iload 4, 2) := by decide +kernel
theorem d_La_law_244 : decode b_La_law 244 = .ok (.iconst 1, 1) := by decide +kernel
theorem d_La_law_245 : decode b_La_law 245 = .ok (.iadd, 1) := by decide +kernel
theorem d_La_law_246 : decode b_La_law 246 = .ok (.iaload, 1) := by decide +kernel
theorem d_La_law_247 : decode b_La_law 247 = .ok (.aload_n 0, 1) := by decide +kernel
theorem d_La_law_248 : decode b_La_law 248 = .ok (.iload 4, 2) := by decide +kernel
theorem d_La_law_250 : decode b_La_law 250 = .ok (.iconst 2, 1) := by decide +kernel
theorem d_La_law_251 : decode b_La_law 251 = .ok (.iadd, 1) := by decide +kernel
theorem d_La_law_252 : decode b_La_law 252 = .ok (.iaload, 1) := by decide +kernel
theorem d_La_law_253 : decode b_La_law 253 = .ok (.aload_n 3, 1) := by decide +kernel
theorem d_La_law_254 : decode b_La_law 254 = .ok (.invokestatic 69, 3) := by decide +kernel
theorem d_La_law_257 : decode b_La_law 257 = .ok (.istore 5, 2) := by decide +kernel
theorem d_La_law_259 : decode b_La_law 259 = .ok (.aload_n 2, 1) := by decide +kernel
theorem d_La_law_260 : decode b_La_law 260 = .ok (.aload_n 0, 1) := by decide +kernel
theorem d_La_law_261 : decode b_La_law 261 = .ok (.iload 4, 2) := by decide +kernel
theorem d_La_law_263 : decode b_La_law 263 = .ok (.iconst 1, 1) := by decide +kernel
theorem d_La_law_264 : decode b_La_law 264 = .ok (.iadd, 1) := by decide +kernel
theorem d_La_law_265 : decode b_La_law 265 = .ok (.iaload, 1) := by decide +kernel
theorem d_La_law_266 : decode b_La_law 266 = .ok (.aload_n 0, 1) := by decide +kernel
theorem d_La_law_267 : decode b_La_law 267 = .ok (.iload 4, 2) := by decide +kernel
theorem d_La_law_269 : decode b_La_law 269 = .ok (.iconst 2, 1) := by decide +kernel
theorem d_La_law_270 : decode b_La_law 270 = .ok (.iadd, 1) := by decide +kernel
theorem d_La_law_271 : decode b_La_law 271 = .ok (.iaload, 1) := by decide +kernel
theorem d_La_law_272 : decode b_La_law 272 = .ok (.invokevirtual 71, 3) := by decide +kernel
theorem d_La_law_275 : decode b_La_law 275 = .ok (.istore 6, 2) := by decide +kernel
theorem d_La_law_277 : decode b_La_law 277 = .ok (.aload_n 2, 1) := by decide +kernel
theorem d_La_law_278 : decode b_La_law 278 = .ok (.invokevirtual 61, 3) := by decide +kernel
theorem d_La_law_281 : decode b_La_law 281 = .ok (.iload 5, 2) := by decide +kernel
theorem d_La_law_283 : decode b_La_law 283 = .ok (.if_icmp .eq 5, 3) := by decide +kernel
theorem d_La_law_286 : decode b_La_law 286 = .ok (.iconst 0, 1) := by decide +kernel
theorem d_La_law_287 : decode b_La_law 287 = .ok (.ireturn, 1) := by decide +kernel
theorem d_La_law_288 : decode b_La_law 288 = .ok (.iload 5, 2) := by decide +kernel
theorem d_La_law_290 : decode b_La_law 290 = .ok (.ifCond .ne 15, 3) := by decide +kernel
theorem d_La_law_293 : decode b_La_law 293 = .ok (.aload_n 3, 1) := by decide +kernel
theorem d_La_law_294 : decode b_La_law 294 = .ok (.iconst 0, 1) := by decide +kernel
theorem d_La_law_295 : decode b_La_law 295 = .ok (.laload, 1) := by decide +kernel
theorem d_La_law_296 : decode b_La_law 296 = .ok (.iload 6, 2) := by decide +kernel
theorem d_La_law_298 : decode b_La_law 298 = .ok (.i2l, 1) := by decide +kernel
theorem d_La_law_299 : decode b_La_law 299 = .ok (.lcmp, 1) := by decide +kernel
theorem d_La_law_300 : decode b_La_law 300 = .ok (.ifCond .eq 5, 3) := by decide +kernel
theorem d_La_law_303 : decode b_La_law 303 = .ok (.iconst 0, 1) := by decide +kernel
theorem d_La_law_304 : decode b_La_law 304 = .ok (.ireturn, 1) := by decide +kernel
theorem d_La_law_305 : decode b_La_law 305 = .ok (.goto 413, 3) := by decide +kernel
theorem d_La_law_308 : decode b_La_law 308 = .ok (.aload_n 1, 1) := by decide +kernel
theorem d_La_law_309 : decode b_La_law 309 = .ok (.aload_n 0, 1) := by decide +kernel
theorem d_La_law_310 : decode b_La_law 310 = .ok (.iload 4, 2) := by decide +kernel
theorem d_La_law_312 : decode b_La_law 312 = .ok (.iconst 1, 1) := by decide +kernel
theorem d_La_law_313 : decode b_La_law 313 = .ok (.iadd, 1) := by decide +kernel
theorem d_La_law_314 : decode b_La_law 314 = .ok (.iaload, 1) := by decide +kernel
theorem d_La_law_315 : decode b_La_law 315 = .ok (.aload_n 3, 1) := by decide +kernel
theorem d_La_law_316 : decode b_La_law 316 = .ok (.invokestatic 72, 3) := by decide +kernel
theorem d_La_law_319 : decode b_La_law 319 = .ok (.istore 5, 2) := by decide +kernel
theorem d_La_law_321 : decode b_La_law 321 = .ok (.aload_n 2, 1) := by decide +kernel
theorem d_La_law_322 : decode b_La_law 322 = .ok (.aload_n 0, 1) := by decide +kernel
theorem d_La_law_323 : decode b_La_law 323 = .ok (.iload 4, 2) := by decide +kernel
theorem d_La_law_325 : decode b_La_law 325 = .ok (.iconst 1, 1) := by decide +kernel
theorem d_La_law_326 : decode b_La_law 326 = .ok (.iadd, 1) := by decide +kernel
theorem d_La_law_327 : decode b_La_law 327 = .ok (.iaload, 1) := by decide +kernel
theorem d_La_law_328 : decode b_La_law 328 = .ok (.invokevirtual 74, 3) := by decide +kernel
theorem d_La_law_331 : decode b_La_law 331 = .ok (.istore 6, 2) := by decide +kernel
theorem d_La_law_333 : decode b_La_law 333 = .ok (.aload_n 2, 1) := by decide +kernel
theorem d_La_law_334 : decode b_La_law 334 = .ok (.invokevirtual 61, 3) := by decide +kernel
theorem d_La_law_337 : decode b_La_law 337 = .ok (.iload 5, 2) := by decide +kernel
theorem d_La_law_339 : decode b_La_law 339 = .ok (.if_icmp .eq 5, 3) := by decide +kernel
theorem d_La_law_342 : decode b_La_law 342 = .ok (.iconst 0, 1) := by decide +kernel
theorem d_La_law_343 : decode b_La_law 343 = .ok (.ireturn, 1) := by decide +kernel
theorem d_La_law_344 : decode b_La_law 344 = .ok (.iload 5, 2) := by decide +kernel
theorem d_La_law_346 : decode b_La_law 346 = .ok (.ifCond .ne 15, 3) := by decide +kernel
theorem d_La_law_349 : decode b_La_law 349 = .ok (.aload_n 3, 1) := by decide +kernel
theorem d_La_law_350 : decode b_La_law 350 = .ok (.iconst 0, 1) := by decide +kernel
theorem d_La_law_351 : decode b_La_law 351 = .ok (.laload, 1) := by decide +kernel
theorem d_La_law_352 : decode b_La_law 352 = .ok (.iload 6, 2) := by decide +kernel
theorem d_La_law_354 : decode b_La_law 354 = .ok (.i2l, 1) := by decide +kernel
theorem d_La_law_355 : decode b_La_law 355 = .ok (.lcmp, 1) := by decide +kernel
theorem d_La_law_356 : decode b_La_law 356 = .ok (.ifCond .eq 5, 3) := by decide +kernel
theorem d_La_law_359 : decode b_La_law 359 = .ok (.iconst 0, 1) := by decide +kernel
theorem d_La_law_360 : decode b_La_law 360 = .ok (.ireturn, 1) := by decide +kernel
theorem d_La_law_361 : decode b_La_law 361 = .ok (.goto 357, 3) := by decide +kernel
theorem d_La_law_364 : decode b_La_law 364 = .ok (.aload_n 1, 1) := by decide +kernel
theorem d_La_law_365 : decode b_La_law 365 = .ok (.aload_n 0, 1) := by decide +kernel
theorem d_La_law_366 : decode b_La_law 366 = .ok (.iload 4, 2) := by decide +kernel
theorem d_La_law_368 : decode b_La_law 368 = .ok (.iconst 1, 1) := by decide +kernel
theorem d_La_law_369 : decode b_La_law 369 = .ok (.iadd, 1) := by decide +kernel
theorem d_La_law_370 : decode b_La_law 370 = .ok (.iaload, 1) := by decide +kernel
theorem d_La_law_371 : decode b_La_law 371 = .ok (.aload_n 3, 1) := by decide +kernel
theorem d_La_law_372 : decode b_La_law 372 = .ok (.invokestatic 75, 3) := by decide +kernel
theorem d_La_law_375 : decode b_La_law 375 = .ok (.istore 5, 2) := by decide +kernel
theorem d_La_law_377 : decode b_La_law 377 = .ok (.aload_n 2, 1) := by decide +kernel
theorem d_La_law_378 : decode b_La_law 378 = .ok (.aload_n 0, 1) := by decide +kernel
theorem d_La_law_379 : decode b_La_law 379 = .ok (.iload 4, 2) := by decide +kernel
theorem d_La_law_381 : decode b_La_law 381 = .ok (.iconst 1, 1) := by decide +kernel
theorem d_La_law_382 : decode b_La_law 382 = .ok (.iadd, 1) := by decide +kernel
theorem d_La_law_383 : decode b_La_law 383 = .ok (.iaload, 1) := by decide +kernel
theorem d_La_law_384 : decode b_La_law 384 = .ok (.invokevirtual 77, 3) := by decide +kernel
theorem d_La_law_387 : decode b_La_law 387 = .ok (.istore 6, 2) := by decide +kernel
theorem d_La_law_389 : decode b_La_law 389 = .ok (.aload_n 2, 1) := by decide +kernel
theorem d_La_law_390 : decode b_La_law 390 = .ok (.invokevirtual 61, 3) := by decide +kernel
theorem d_La_law_393 : decode b_La_law 393 = .ok (.iload 5, 2) := by decide +kernel
theorem d_La_law_395 : decode b_La_law 395 = .ok (.if_icmp .eq 5, 3) := by decide +kernel
theorem d_La_law_398 : decode b_La_law 398 = .ok (.iconst 0, 1) := by decide +kernel
theorem d_La_law_399 : decode b_La_law 399 = .ok (.ireturn, 1) := by decide +kernel
theorem d_La_law_400 : decode b_La_law 400 = .ok (.iload 5, 2) := by decide +kernel
theorem d_La_law_402 : decode b_La_law 402 = .ok (.ifCond .ne 15, 3) := by decide +kernel
theorem d_La_law_405 : decode b_La_law 405 = .ok (.aload_n 3, 1) := by decide +kernel
theorem d_La_law_406 : decode b_La_law 406 = .ok (.iconst 0, 1) := by decide +kernel
theorem d_La_law_407 : decode b_La_law 407 = .ok (.laload, 1) := by decide +kernel
theorem d_La_law_408 : decode b_La_law 408 = .ok (.iload 6, 2) := by decide +kernel
theorem d_La_law_410 : decode b_La_law 410 = .ok (.i2l, 1) := by decide +kernel
theorem d_La_law_411 : decode b_La_law 411 = .ok (.lcmp, 1) := by decide +kernel
theorem d_La_law_412 : decode b_La_law 412 = .ok (.ifCond .eq 5, 3) := by decide +kernel
theorem d_La_law_415 : decode b_La_law 415 = .ok (.iconst 0, 1) := by decide +kernel
theorem d_La_law_416 : decode b_La_law 416 = .ok (.ireturn, 1) := by decide +kernel
theorem d_La_law_417 : decode b_La_law 417 = .ok (.goto 301, 3) := by decide +kernel
theorem d_La_law_420 : decode b_La_law 420 = .ok (.aload_n 1, 1) := by decide +kernel
theorem d_La_law_421 : decode b_La_law 421 = .ok (.aload_n 0, 1) := by decide +kernel
theorem d_La_law_422 : decode b_La_law 422 = .ok (.iload 4, 2) := by decide +kernel
theorem d_La_law_424 : decode b_La_law 424 = .ok (.iconst 1, 1) := by decide +kernel
theorem d_La_law_425 : decode b_La_law 425 = .ok (.iadd, 1) := by decide +kernel
theorem d_La_law_426 : decode b_La_law 426 = .ok (.iaload, 1) := by decide +kernel
theorem d_La_law_427 : decode b_La_law 427 = .ok (.aload_n 0, 1) := by decide +kernel
theorem d_La_law_428 : decode b_La_law 428 = .ok (.iload 4, 2) := by decide +kernel
theorem d_La_law_430 : decode b_La_law 430 = .ok (.iconst 2, 1) := by decide +kernel
theorem d_La_law_431 : decode b_La_law 431 = .ok (.iadd, 1) := by decide +kernel
theorem d_La_law_432 : decode b_La_law 432 = .ok (.iaload, 1) := by decide +kernel
theorem d_La_law_433 : decode b_La_law 433 = .ok (.aload_n 3, 1) := by decide +kernel
theorem d_La_law_434 : decode b_La_law 434 = .ok (.invokestatic 78, 3) := by decide +kernel
theorem d_La_law_437 : decode b_La_law 437 = .ok (.istore 5, 2) := by decide +kernel
theorem d_La_law_439 : decode b_La_law 439 = .ok (.aload_n 2, 1) := by decide +kernel
theorem d_La_law_440 : decode b_La_law 440 = .ok (.aload_n 0, 1) := by decide +kernel
theorem d_La_law_441 : decode b_La_law 441 = .ok (.iload 4, 2) := by decide +kernel
theorem d_La_law_443 : decode b_La_law 443 = .ok (.iconst 1, 1) := by decide +kernel
theorem d_La_law_444 : decode b_La_law 444 = .ok (.iadd, 1) := by decide +kernel
theorem d_La_law_445 : decode b_La_law 445 = .ok (.iaload, 1) := by decide +kernel
theorem d_La_law_446 : decode b_La_law 446 = .ok (.aload_n 0, 1) := by decide +kernel
theorem d_La_law_447 : decode b_La_law 447 = .ok (.iload 4, 2) := by decide +kernel
theorem d_La_law_449 : decode b_La_law 449 = .ok (.iconst 2, 1) := by decide +kernel
theorem d_La_law_450 : decode b_La_law 450 = .ok (.iadd, 1) := by decide +kernel
theorem d_La_law_451 : decode b_La_law 451 = .ok (.iaload, 1) := by decide +kernel
theorem d_La_law_452 : decode b_La_law 452 = .ok (.invokevirtual 80, 3) := by decide +kernel
theorem d_La_law_455 : decode b_La_law 455 = .ok (.istore 6, 2) := by decide +kernel
theorem d_La_law_457 : decode b_La_law 457 = .ok (.aload_n 2, 1) := by decide +kernel
theorem d_La_law_458 : decode b_La_law 458 = .ok (.invokevirtual 61, 3) := by decide +kernel
theorem d_La_law_461 : decode b_La_law 461 = .ok (.iload 5, 2) := by decide +kernel
theorem d_La_law_463 : decode b_La_law 463 = .ok (.if_icmp .eq 5, 3) := by decide +kernel
theorem d_La_law_466 : decode b_La_law 466 = .ok (.iconst 0, 1) := by decide +kernel
theorem d_La_law_467 : decode b_La_law 467 = .ok (.ireturn, 1) := by decide +kernel
theorem d_La_law_468 : decode b_La_law 468 = .ok (.iload 5, 2) := by decide +kernel
theorem d_La_law_470 : decode b_La_law 470 = .ok (.ifCond .ne 15, 3) := by decide +kernel
theorem d_La_law_473 : decode b_La_law 473 = .ok (.aload_n 3, 1) := by decide +kernel
theorem d_La_law_474 : decode b_La_law 474 = .ok (.iconst 0, 1) := by decide +kernel
theorem d_La_law_475 : decode b_La_law 475 = .ok (.laload, 1) := by decide +kernel
theorem d_La_law_476 : decode b_La_law 476 = .ok (.iload 6, 2) := by decide +kernel
theorem d_La_law_478 : decode b_La_law 478 = .ok (.i2l, 1) := by decide +kernel
theorem d_La_law_479 : decode b_La_law 479 = .ok (.lcmp, 1) := by decide +kernel
theorem d_La_law_480 : decode b_La_law 480 = .ok (.ifCond .eq 5, 3) := by decide +kernel
theorem d_La_law_483 : decode b_La_law 483 = .ok (.iconst 0, 1) := by decide +kernel
theorem d_La_law_484 : decode b_La_law 484 = .ok (.ireturn, 1) := by decide +kernel
theorem d_La_law_485 : decode b_La_law 485 = .ok (.goto 233, 3) := by decide +kernel
theorem d_La_law_488 : decode b_La_law 488 = .ok (.aload_n 1, 1) := by decide +kernel
theorem d_La_law_489 : decode b_La_law 489 = .ok (.aload_n 0, 1) := by decide +kernel
theorem d_La_law_490 : decode b_La_law 490 = .ok (.iload 4, 2) := by decide +kernel
theorem d_La_law_492 : decode b_La_law 492 = .ok (.iconst 1, 1) := by decide +kernel
theorem d_La_law_493 : decode b_La_law 493 = .ok (.iadd, 1) := by decide +kernel
theorem d_La_law_494 : decode b_La_law 494 = .ok (.iaload, 1) := by decide +kernel
theorem d_La_law_495 : decode b_La_law 495 = .ok (.aload_n 3, 1) := by decide +kernel
theorem d_La_law_496 : decode b_La_law 496 = .ok (.invokestatic 81, 3) := by decide +kernel
theorem d_La_law_499 : decode b_La_law 499 = .ok (.istore 5, 2) := by decide +kernel
theorem d_La_law_501 : decode b_La_law 501 = .ok (.aload_n 2, 1) := by decide +kernel
theorem d_La_law_502 : decode b_La_law 502 = .ok (.aload_n 0, 1) := by decide +kernel
theorem d_La_law_503 : decode b_La_law 503 = .ok (.iload 4, 2) := by decide +kernel
theorem d_La_law_505 : decode b_La_law 505 = .ok (.iconst 1, 1) := by decide +kernel
theorem d_La_law_506 : decode b_La_law 506 = .ok (.iadd, 1) := by decide +kernel
theorem d_La_law_507 : decode b_La_law 507 = .ok (.iaload, 1) := by decide +kernel
theorem d_La_law_508 : decode b_La_law 508 = .ok (.invokevirtual 83, 3) := by decide +kernel
theorem d_La_law_511 : decode b_La_law 511 = .ok (.istore 6, 2) := by decide +kernel
theorem d_La_law_513 : decode b_La_law 513 = .ok (.aload_n 2, 1) := by decide +kernel
theorem d_La_law_514 : decode b_La_law 514 = .ok (.invokevirtual 61, 3) := by decide +kernel
theorem d_La_law_517 : decode b_La_law 517 = .ok (.iload 5, 2) := by decide +kernel
theorem d_La_law_519 : decode b_La_law 519 = .ok (.if_icmp .eq 5, 3) := by decide +kernel
theorem d_La_law_522 : decode b_La_law 522 = .ok (.iconst 0, 1) := by decide +kernel
theorem d_La_law_523 : decode b_La_law 523 = .ok (.ireturn, 1) := by decide +kernel
theorem d_La_law_524 : decode b_La_law 524 = .ok (.iload 5, 2) := by decide +kernel
theorem d_La_law_526 : decode b_La_law 526 = .ok (.ifCond .ne 15, 3) := by decide +kernel
theorem d_La_law_529 : decode b_La_law 529 = .ok (.aload_n 3, 1) := by decide +kernel
theorem d_La_law_530 : decode b_La_law 530 = .ok (.iconst 0, 1) := by decide +kernel
theorem d_La_law_531 : decode b_La_law 531 = .ok (.laload, 1) := by decide +kernel
theorem d_La_law_532 : decode b_La_law 532 = .ok (.iload 6, 2) := by decide +kernel
theorem d_La_law_534 : decode b_La_law 534 = .ok (.i2l, 1) := by decide +kernel
theorem d_La_law_535 : decode b_La_law 535 = .ok (.lcmp, 1) := by decide +kernel
theorem d_La_law_536 : decode b_La_law 536 = .ok (.ifCond .eq 5, 3) := by decide +kernel
theorem d_La_law_539 : decode b_La_law 539 = .ok (.iconst 0, 1) := by decide +kernel
theorem d_La_law_540 : decode b_La_law 540 = .ok (.ireturn, 1) := by decide +kernel
theorem d_La_law_541 : decode b_La_law 541 = .ok (.goto 177, 3) := by decide +kernel
theorem d_La_law_544 : decode b_La_law 544 = .ok (.aload_n 1, 1) := by decide +kernel
theorem d_La_law_545 : decode b_La_law 545 = .ok (.aload_n 0, 1) := by decide +kernel
theorem d_La_law_546 : decode b_La_law 546 = .ok (.iload 4, 2) := by decide +kernel
theorem d_La_law_548 : decode b_La_law 548 = .ok (.iconst 1, 1) := by decide +kernel
theorem d_La_law_549 : decode b_La_law 549 = .ok (.iadd, 1) := by decide +kernel
theorem d_La_law_550 : decode b_La_law 550 = .ok (.iaload, 1) := by decide +kernel
theorem d_La_law_551 : decode b_La_law 551 = .ok (.aload_n 0, 1) := by decide +kernel
theorem d_La_law_552 : decode b_La_law 552 = .ok (.iload 4, 2) := by decide +kernel
theorem d_La_law_554 : decode b_La_law 554 = .ok (.iconst 2, 1) := by decide +kernel
theorem d_La_law_555 : decode b_La_law 555 = .ok (.iadd, 1) := by decide +kernel
theorem d_La_law_556 : decode b_La_law 556 = .ok (.iaload, 1) := by decide +kernel
theorem d_La_law_557 : decode b_La_law 557 = .ok (.aload_n 0, 1) := by decide +kernel
theorem d_La_law_558 : decode b_La_law 558 = .ok (.iload 4, 2) := by decide +kernel
theorem d_La_law_560 : decode b_La_law 560 = .ok (.iconst 3, 1) := by decide +kernel
theorem d_La_law_561 : decode b_La_law 561 = .ok (.iadd, 1) := by decide +kernel
theorem d_La_law_562 : decode b_La_law 562 = .ok (.iaload, 1) := by decide +kernel
theorem d_La_law_563 : decode b_La_law 563 = .ok (.aload_n 3, 1) := by decide +kernel
theorem d_La_law_564 : decode b_La_law 564 = .ok (.invokestatic 84, 3) := by decide +kernel
theorem d_La_law_567 : decode b_La_law 567 = .ok (.istore 5, 2) := by decide +kernel
theorem d_La_law_569 : decode b_La_law 569 = .ok (.aload_n 2, 1) := by decide +kernel
theorem d_La_law_570 : decode b_La_law 570 = .ok (.aload_n 0, 1) := by decide +kernel
theorem d_La_law_571 : decode b_La_law 571 = .ok (.iload 4, 2) := by decide +kernel
theorem d_La_law_573 : decode b_La_law 573 = .ok (.iconst 1, 1) := by decide +kernel
theorem d_La_law_574 : decode b_La_law 574 = .ok (.iadd, 1) := by decide +kernel
theorem d_La_law_575 : decode b_La_law 575 = .ok (.iaload, 1) := by decide +kernel
theorem d_La_law_576 : decode b_La_law 576 = .ok (.aload_n 0, 1) := by decide +kernel
theorem d_La_law_577 : decode b_La_law 577 = .ok (.iload 4, 2) := by decide +kernel
theorem d_La_law_579 : decode b_La_law 579 = .ok (.iconst 2, 1) := by decide +kernel
theorem d_La_law_580 : decode b_La_law 580 = .ok (.iadd, 1) := by decide +kernel
theorem d_La_law_581 : decode b_La_law 581 = .ok (.iaload, 1) := by decide +kernel
theorem d_La_law_582 : decode b_La_law 582 = .ok (.aload_n 0, 1) := by decide +kernel
theorem d_La_law_583 : decode b_La_law 583 = .ok (.iload 4, 2) := by decide +kernel
theorem d_La_law_585 : decode b_La_law 585 = .ok (.iconst 3, 1) := by decide +kernel
theorem d_La_law_586 : decode b_La_law 586 = .ok (.iadd, 1) := by decide +kernel
theorem d_La_law_587 : decode b_La_law 587 = .ok (.iaload, 1) := by decide +kernel
theorem d_La_law_588 : decode b_La_law 588 = .ok (.invokevirtual 87, 3) := by decide +kernel
theorem d_La_law_591 : decode b_La_law 591 = .ok (.istore 6, 2) := by decide +kernel
theorem d_La_law_593 : decode b_La_law 593 = .ok (.aload_n 2, 1) := by decide +kernel
theorem d_La_law_594 : decode b_La_law 594 = .ok (.invokevirtual 61, 3) := by decide +kernel
theorem d_La_law_597 : decode b_La_law 597 = .ok (.iload 5, 2) := by decide +kernel
theorem d_La_law_599 : decode b_La_law 599 = .ok (.if_icmp .eq 5, 3) := by decide +kernel
theorem d_La_law_602 : decode b_La_law 602 = .ok (.iconst 0, 1) := by decide +kernel
theorem d_La_law_603 : decode b_La_law 603 = .ok (.ireturn, 1) := by decide +kernel
theorem d_La_law_604 : decode b_La_law 604 = .ok (.iload 5, 2) := by decide +kernel
theorem d_La_law_606 : decode b_La_law 606 = .ok (.ifCond .ne 15, 3) := by decide +kernel
theorem d_La_law_609 : decode b_La_law 609 = .ok (.aload_n 3, 1) := by decide +kernel
theorem d_La_law_610 : decode b_La_law 610 = .ok (.iconst 0, 1) := by decide +kernel
theorem d_La_law_611 : decode b_La_law 611 = .ok (.laload, 1) := by decide +kernel
theorem d_La_law_612 : decode b_La_law 612 = .ok (.iload 6, 2) := by decide +kernel
theorem d_La_law_614 : decode b_La_law 614 = .ok (.i2l, 1) := by decide +kernel
theorem d_La_law_615 : decode b_La_law 615 = .ok (.lcmp, 1) := by decide +kernel
theorem d_La_law_616 : decode b_La_law 616 = .ok (.ifCond .eq 5, 3) := by decide +kernel
theorem d_La_law_619 : decode b_La_law 619 = .ok (.iconst 0, 1) := by decide +kernel
theorem d_La_law_620 : decode b_La_law 620 = .ok (.ireturn, 1) := by decide +kernel
theorem d_La_law_621 : decode b_La_law 621 = .ok (.goto 97, 3) := by decide +kernel
theorem d_La_law_624 : decode b_La_law 624 = .ok (.aload_n 1, 1) := by decide +kernel
theorem d_La_law_625 : decode b_La_law 625 = .ok (.invokevirtual 88, 3) := by decide +kernel
theorem d_La_law_628 : decode b_La_law 628 = .ok (.aload_n 2, 1) := by decide +kernel
theorem d_La_law_629 : decode b_La_law 629 = .ok (.invokevirtual 91, 3) := by decide +kernel
theorem d_La_law_632 : decode b_La_law 632 = .ok (.if_icmp .eq 86, 3) := by decide +kernel
theorem d_La_law_635 : decode b_La_law 635 = .ok (.iconst 0, 1) := by decide +kernel
theorem d_La_law_636 : decode b_La_law 636 = .ok (.ireturn, 1) := by decide +kernel
theorem d_La_law_637 : decode b_La_law 637 = .ok (.aload_n 1, 1) := by decide +kernel
theorem d_La_law_638 : decode b_La_law 638 = .ok (.aload_n 0, 1) := by decide +kernel
theorem d_La_law_639 : decode b_La_law 639 = .ok (.iload 4, 2) := by decide +kernel
theorem d_La_law_641 : decode b_La_law 641 = .ok (.iconst 1, 1) := by decide +kernel
theorem d_La_law_642 : decode b_La_law 642 = .ok (.iadd, 1) := by decide +kernel
theorem d_La_law_643 : decode b_La_law 643 = .ok (.iaload, 1) := by decide +kernel
theorem d_La_law_644 : decode b_La_law 644 = .ok (.aload_n 3, 1) := by decide +kernel
theorem d_La_law_645 : decode b_La_law 645 = .ok (.invokestatic 92, 3) := by decide +kernel
theorem d_La_law_648 : decode b_La_law 648 = .ok (.istore 5, 2) := by decide +kernel
theorem d_La_law_650 : decode b_La_law 650 = .ok (.aload_n 2, 1) := by decide +kernel
theorem d_La_law_651 : decode b_La_law 651 = .ok (.aload_n 0, 1) := by decide +kernel
theorem d_La_law_652 : decode b_La_law 652 = .ok (.iload 4, 2) := by decide +kernel
theorem d_La_law_654 : decode b_La_law 654 = .ok (.iconst 1, 1) := by decide +kernel
theorem d_La_law_655 : decode b_La_law 655 = .ok (.iadd, 1) := by decide +kernel
theorem d_La_law_656 : decode b_La_law 656 = .ok (.iaload, 1) := by decide +kernel
theorem d_La_law_657 : decode b_La_law 657 = .ok (.invokevirtual 94, 3) := by decide +kernel
theorem d_La_law_660 : decode b_La_law 660 = .ok (.istore 6, 2) := by decide +kernel
theorem d_La_law_662 : decode b_La_law 662 = .ok (.aload_n 2, 1) := by decide +kernel
theorem d_La_law_663 : decode b_La_law 663 = .ok (.invokevirtual 61, 3) := by decide +kernel
theorem d_La_law_666 : decode b_La_law 666 = .ok (.iload 5, 2) := by decide +kernel
theorem d_La_law_668 : decode b_La_law 668 = .ok (.if_icmp .eq 5, 3) := by decide +kernel
theorem d_La_law_671 : decode b_La_law 671 = .ok (.iconst 0, 1) := by decide +kernel
theorem d_La_law_672 : decode b_La_law 672 = .ok (.ireturn, 1) := by decide +kernel
theorem d_La_law_673 : decode b_La_law 673 = .ok (.iload 5, 2) := by decide +kernel
theorem d_La_law_675 : decode b_La_law 675 = .ok (.ifCond .ne 15, 3) := by decide +kernel
theorem d_La_law_678 : decode b_La_law 678 = .ok (.aload_n 3, 1) := by decide +kernel
theorem d_La_law_679 : decode b_La_law 679 = .ok (.iconst 0, 1) := by decide +kernel
theorem d_La_law_680 : decode b_La_law 680 = .ok (.laload, 1) := by decide +kernel
theorem d_La_law_681 : decode b_La_law 681 = .ok (.iload 6, 2) := by decide +kernel
theorem d_La_law_683 : decode b_La_law 683 = .ok (.i2l, 1) := by decide +kernel
theorem d_La_law_684 : decode b_La_law 684 = .ok (.lcmp, 1) := by decide +kernel
theorem d_La_law_685 : decode b_La_law 685 = .ok (.ifCond .eq 5, 3) := by decide +kernel
theorem d_La_law_688 : decode b_La_law 688 = .ok (.iconst 0, 1) := by decide +kernel
theorem d_La_law_689 : decode b_La_law 689 = .ok (.ireturn, 1) := by decide +kernel
theorem d_La_law_690 : decode b_La_law 690 = .ok (.goto 28, 3) := by decide +kernel
theorem d_La_law_693 : decode b_La_law 693 = .ok (.aload_n 1, 1) := by decide +kernel
theorem d_La_law_694 : decode b_La_law 694 = .ok (.aload_n 0, 1) := by decide +kernel
theorem d_La_law_695 : decode b_La_law 695 = .ok (.iload 4, 2) := by decide +kernel
theorem d_La_law_697 : decode b_La_law 697 = .ok (.iconst 1, 1) := by decide +kernel
theorem d_La_law_698 : decode b_La_law 698 = .ok (.iadd, 1) := by decide +kernel
theorem d_La_law_699 : decode b_La_law 699 = .ok (.iaload, 1) := by decide +kernel
theorem d_La_law_700 : decode b_La_law 700 = .ok (.invokevirtual 95, 3) := by decide +kernel
theorem d_La_law_703 : decode b_La_law 703 = .ok (.aload_n 2, 1) := by decide +kernel
theorem d_La_law_704 : decode b_La_law 704 = .ok (.aload_n 0, 1) := by decide +kernel
theorem d_La_law_705 : decode b_La_law 705 = .ok (.iload 4, 2) := by decide +kernel
theorem d_La_law_707 : decode b_La_law 707 = .ok (.iconst 1, 1) := by decide +kernel
theorem d_La_law_708 : decode b_La_law 708 = .ok (.iadd, 1) := by decide +kernel
theorem d_La_law_709 : decode b_La_law 709 = .ok (.iaload, 1) := by decide +kernel
theorem d_La_law_710 : decode b_La_law 710 = .ok (.invokevirtual 98, 3) := by decide +kernel
theorem d_La_law_713 : decode b_La_law 713 = .ok (.if_icmp .eq 5, 3) := by decide +kernel
theorem d_La_law_716 : decode b_La_law 716 = .ok (.iconst 0, 1) := by decide +kernel
theorem d_La_law_717 : decode b_La_law 717 = .ok (.ireturn, 1) := by decide +kernel
theorem d_La_law_718 : decode b_La_law 718 = .ok (.iinc 4 4, 3) := by decide +kernel
theorem d_La_law_721 : decode b_La_law 721 = .ok (.goto (-678), 3) := by decide +kernel
theorem d_La_law_724 : decode b_La_law 724 = .ok (.iconst 1, 1) := by decide +kernel
theorem d_La_law_725 : decode b_La_law 725 = .ok (.ireturn, 1) := by decide +kernel
end
section
/-! The one world: every object of the class and of the reference; G a b is the number at place b of cell a. -/
abbrev gT : Type := Nat → Nat → Int32
abbrev gO : Type := Option Value ⊕ String
def g_up (G : gT) (c k : Nat) (v : Int32) : gT := fun a b => if a = c then (if b = k then v else G a b) else G a b
abbrev gcl : List vw_C := [(R_Ma, F_Ma, 12), (R_Ro, F_Ro, 13), (R_BS, F_BS, 7), (R_Mo, F_Mo, 15)]
def gwd (ad : Nat → Nat) (cI cL : ClassId) (G : gT) (O : Int64) : va_W := [(ad 0, .inr (2, [.int (G 0 0), .ref (ad 1), .ref (ad 2), .int (G 0 3), .ref (ad 3), .ref (ad 5), .ref (ad 7)])),
  (ad 1, .inl (cI, 64, .inl (G 1))),
  (ad 2, .inl (cI, 200, .inl (G 2))),
  (ad 3, .inr (0, [.ref (ad 4), .int (G 3 1), .int (G 3 2), .int (G 3 3), .int (G 3 4), .int (G 3 5), .int (G 3 6), .int (G 3 7), .int (G 3 8), .int (G 3 9), .int (G 3 10), .int (G 3 11)])),
  (ad 4, .inl (cI, 264, .inl (G 4))),
  (ad 5, .inr (0, [.ref (ad 6), .int (G 5 1), .int (G 5 2), .int (G 5 3), .int (G 5 4), .int (G 5 5), .int (G 5 6), .int (G 5 7), .int (G 5 8), .int (G 5 9), .int (G 5 10), .int (G 5 11)])),
  (ad 6, .inl (cI, 264, .inl (G 6))),
  (ad 7, .inr (1, [.int (G 7 0), .int (G 7 1), .int (G 7 2), .int (G 7 3), .int (G 7 4), .ref (ad 8), .ref (ad 9), .ref (ad 10), .ref (ad 11), .ref (ad 12), .ref (ad 13), .ref (ad 14), .ref (ad 15)])),
  (ad 8, .inl (cI, 1024, .inl (G 8))),
  (ad 9, .inl (cI, 1024, .inl (G 9))),
  (ad 10, .inl (cI, 1024, .inl (G 10))),
  (ad 11, .inl (cI, 1024, .inl (G 11))),
  (ad 12, .inl (cI, 1024, .inl (G 12))),
  (ad 13, .inl (cI, 1024, .inl (G 13))),
  (ad 14, .inl (cI, 1024, .inl (G 14))),
  (ad 15, .inl (cI, 1024, .inl (G 15))),
  (ad 16, .inr (3, [.int (G 16 0), .int (G 16 1), .int (G 16 2), .ref (ad 17), .int (G 16 4), .ref (ad 18), .ref (ad 19), .ref (ad 20), .ref (ad 21), .ref (ad 22), .ref (ad 23), .int (G 16 11), .int (G 16 12), .int (G 16 13), .int (G 16 14)])),
  (ad 17, .inl (cI, 64, .inl (G 17))),
  (ad 18, .inl (cI, 200, .inl (G 18))),
  (ad 19, .inl (cI, 269, .inl (G 19))),
  (ad 20, .inl (cI, 269, .inl (G 20))),
  (ad 21, .inl (cI, 275725, .inl (G 21))),
  (ad 22, .inl (cI, 1025, .inl (G 22))),
  (ad 23, .inl (cI, 1025, .inl (G 23))),
  (ad 24, .inl (cL, 1, .inr (.inl (fun _ => O))))]
abbrev gty (cI cL : ClassId) : List (ClassId × FieldType) := [(cI, .int), (cL, .long)]
/-- the cells that may change: the world's, and new ones -/
def gA (ad : Nat → Nat) (sz : Nat) : Nat → Prop := fun q => (∃ k, k < 25 ∧ q = ad k) ∨ sz ≤ q
/-- what is known of the law's own start -/
def gS (s0 : State) : Prop := ∃ A0 : Array Value, (∀ w ∈ lw_tbl, w.before A0 s0 = true) ∧ (Jvm.Cond.and given_1 narrow_1).before A0 s0 = true
/-- since the law's start nothing old has changed -/
def gX (s0 : State) (ad : Nat → Nat) (U : State) : Prop := gS s0 ∧ s0.WarmedH U.vm ∧ s0.heap.size ≤ U.heap.size ∧ (∀ q : Nat, q < s0.heap.size → U.heap[q]? = s0.heap[q]?) ∧ ∀ k, k < 25 → s0.heap.size ≤ ad k
def gW (s0 : State) (D : va_G) (cI cL : ClassId) (ad : Nat → Nat) (sz : Nat) (G : gT) (O : Int64) (U : State) : Prop :=
  va_P D gcl (gwd ad cI cL G O) U.heap ∧ va_K D gcl (gty cI cL) U ∧ va_D (gA ad sz) (gwd ad cI cL G O) ∧ gX s0 ad U
def gB (s0 s : State) (D : va_G) (cI cL : ClassId) (ad : Nat → Nat) (G : gT) (O : Int64) (H : Heap) (locs : List Loc) : Prop :=
  va_P D gcl (gwd ad cI cL G O) H ∧ va_K D gcl (gty cI cL) s ∧ va_D (gA ad s.heap.size) (gwd ad cI cL G O) ∧ va_S (gA ad s.heap.size) s.heap H locs ∧ gX s0 ad s
def gOut (o : gO) (st : State) (oc : Outcome) (t : State) : Prop := match o with
  | .inl v => oc = .returned v
  | .inr E => ∃ (q : Nat) (ce : Cell), oc = .threw q ∧ t.heap[q]? = some ce ∧ ce.vm = .none ∧ st.vm.findClass E = some ce.cls
def gQ (s0 : State) (D : va_G) (cI cL : ClassId) (ad : Nat → Nat) (sz mc ms : Nat) (o : gO) (G' : gT) (O' : Int64) : Array Value → State → Outcome → State → Prop := fun _ st oc t =>
  (∃ L : List Loc, st.WarmedH t.vm ∧ st.sameButNew ({ t with vm := st.vm } : State) L mc ms ∧ ∀ q ∈ L, gA ad sz q.base) ∧ va_F (gA ad sz) st t ∧ gW s0 D cI cL ad sz G' O' t ∧ gOut o st oc t
def gE (s0 : State) (below : List Frame) (args : Array Value) (s : State) (D : va_G) (cI cL : ClassId) (ad : Nat → Nat) (mc ms : Nat) (o : gO) (G' : gT) (O' : Int64) : State → Prop := fun t =>
  ∃ oc, t.status = .running ∧ Ended t below oc ∧ gQ s0 D cI cL ad s.heap.size mc ms o G' O' args s oc t
/-- A METHOD's CONTRACT: from the world (G, O) it comes to o and the world (G', O') -/
def gMet (l : Launch) (y : MethodName) (wy : Cond) (rm : Room) (av : (Nat → Nat) → List Value) (G : gT) (O : Int64) (o : gO) (G' : gT) (O' : Int64) : Prop :=
  ∀ (s0 : State) (D : va_G) (cI cL : ClassId) (ad : Nat → Nat) (sz : Nat),
    MetFree l y (headSpec [wy] rm) (fun v U => v = (av ad).toArray ∧ U.heap.size = sz ∧ gW s0 D cI cL ad sz G O U) (fun _ _ _ _ _ => True) (gQ s0 D cI cL ad sz rm.cells rm.slots o G' O')
theorem gA_mono {ad : Nat → Nat} {a b : Nat} (h : a ≤ b) {q : Nat} (hq : gA ad b q) : gA ad a q := hq.elim Or.inl (fun z => Or.inr (Nat.le_trans h z))
theorem g_old {s0 U : State} {ad : Nat → Nat} {sz : Nat} (hX : gX s0 ad U) (hsz : s0.heap.size ≤ sz) {q : Nat} (hq : q < s0.heap.size) : ¬ gA ad sz q := by
  intro h
  rcases h with ⟨k, hk, rfl⟩ | h
  · exact absurd (hX.2.2.2.2 k hk) (Nat.not_le.mpr hq)
  · omega
theorem g_word {s0 U : State} {ad : Nat → Nat} (hX : gX s0 ad U) {a : Array Value} : ∀ w ∈ gtb, w.before a U = true := by
  intro w hw
  obtain ⟨⟨A0, h0, -⟩, hW, -⟩ := hX
  obtain ⟨h1, h2⟩ := List.mem_filter.mp hw
  exact word_at hW (good_of_word h2) (h0 w h1)
theorem gX_moved {s0 s U : State} {ad : Nat → Nat} {H : Heap} {locs : List Loc} (hX : gX s0 ad s) (hS : va_S (gA ad s.heap.size) s.heap H locs) (hU : U.heap = H) (hW : s.WarmedH U.vm) : gX s0 ad U := by
  refine ⟨hX.1, State.WarmedH.trans hX.2.1 hW, ?_, ?_, hX.2.2.2.2⟩
  · rw [hU]; exact Nat.le_trans hX.2.2.1 hS.1
  · intro q hq
    rw [hU, hS.2.1 q (Nat.lt_of_lt_of_le hq hX.2.2.1) (g_old hX hX.2.2.1 hq)]
    exact hX.2.2.2.1 q hq
theorem W_mono {p : Program} {l : Launch} {e : Env} {R : Room} {s : State} {m : MethodId} {args : Array Value} {below : List Frame} {meth : Method} {c : Code} {H : Heap} {locs : List Loc} {cells slots : Nat} {Q Q' : State → Prop} {g : JFrame} (h : ∀ t, Q t → Q' t) (k : W p l e R s m args below meth c H locs cells slots Q g) : W p l e R s m args below meth c H locs cells slots Q' g := by
  intro T hT X
  obtain ⟨t, a, b⟩ := k T hT X
  exact ⟨t, a, h t b⟩
section GRows
variable {p : Program} {l : Launch} {e : Env} {R : Room} {s0 s : State} {m : MethodId} {args : Array Value} {below : List Frame} {meth : Method} {c : Code} {H : Heap} {locs : List Loc} {cells slots mc ms : Nat} {Q : State → Prop} {cc : ByteArray} {nL pc : Nat} {ls : Array Slot} {rest : List Value} {own : String} {D : va_G} {cI cL : ClassId} {ad : Nat → Nat} {G : gT} {O : Int64}
theorem gg_0_0 (hC : CallFix p m c cc nL s args gtb own) (hB : gB s0 s D cI cL ad G O H locs) {index : Nat} {x : Int32} (hx : G 0 0 = x) (hl : Cond.fieldLink own index "BackSteps" "markDistance" "I" ∈ gtb) (hdg : decode cc pc = .ok (.getfield index, 3)) (kk : W p l e R s m args below meth c H locs cells slots Q  (F0 m (pc + 3) ls (.int x :: rest))) : W p l e R s m args below meth c H locs cells slots Q  (F0 m pc ls (.ref (ad 0) :: rest)) := by
  subst hx
  exact va_get (q0 := 0) (k := 0) hC.1 hC.2.1 hC.2.2.2.2 in_BS hC.2.2.2.1 hB.2.1 hB.1 rfl rfl (by decide) (hC.2.2.2.2 _ hl) (fun _ h => h) rfl hdg kk
theorem gr_0_1 (hC : CallFix p m c cc nL s args gtb own) (hB : gB s0 s D cI cL ad G O H locs) {index : Nat} (hl : Cond.fieldLink own index "BackSteps" "program" "[I" ∈ gtb) (hdg : decode cc pc = .ok (.getfield index, 3)) (kk : W p l e R s m args below meth c H locs cells slots Q  (F0 m (pc + 3) ls (.ref (ad 1) :: rest))) : W p l e R s m args below meth c H locs cells slots Q  (F0 m pc ls (.ref (ad 0) :: rest)) :=
  va_get (q0 := 0) (k := 1) hC.1 hC.2.1 hC.2.2.2.2 in_BS hC.2.2.2.1 hB.2.1 hB.1 rfl rfl (by decide) (hC.2.2.2.2 _ hl) (fun _ h => h) rfl hdg kk
theorem gr_0_2 (hC : CallFix p m c cc nL s args gtb own) (hB : gB s0 s D cI cL ad G O H locs) {index : Nat} (hl : Cond.fieldLink own index "BackSteps" "inputs" "[I" ∈ gtb) (hdg : decode cc pc = .ok (.getfield index, 3)) (kk : W p l e R s m args below meth c H locs cells slots Q  (F0 m (pc + 3) ls (.ref (ad 2) :: rest))) : W p l e R s m args below meth c H locs cells slots Q  (F0 m pc ls (.ref (ad 0) :: rest)) :=
  va_get (q0 := 0) (k := 2) hC.1 hC.2.1 hC.2.2.2.2 in_BS hC.2.2.2.1 hB.2.1 hB.1 rfl rfl (by decide) (hC.2.2.2.2 _ hl) (fun _ h => h) rfl hdg kk
theorem gg_0_3 (hC : CallFix p m c cc nL s args gtb own) (hB : gB s0 s D cI cL ad G O H locs) {index : Nat} {x : Int32} (hx : G 0 3 = x) (hl : Cond.fieldLink own index "BackSteps" "given" "I" ∈ gtb) (hdg : decode cc pc = .ok (.getfield index, 3)) (kk : W p l e R s m args below meth c H locs cells slots Q  (F0 m (pc + 3) ls (.int x :: rest))) : W p l e R s m args below meth c H locs cells slots Q  (F0 m pc ls (.ref (ad 0) :: rest)) := by
  subst hx
  exact va_get (q0 := 0) (k := 3) hC.1 hC.2.1 hC.2.2.2.2 in_BS hC.2.2.2.1 hB.2.1 hB.1 rfl rfl (by decide) (hC.2.2.2.2 _ hl) (fun _ h => h) rfl hdg kk
theorem gp_0_3 (hC : CallFix p m c cc nL s args gtb own) (hB : gB s0 s D cI cL ad G O H locs) {index : Nat} {v : Int32} (hl : Cond.fieldLink own index "BackSteps" "given" "I" ∈ gtb) (hdg : decode cc pc = .ok (.putfield index, 3)) (kk : ∀ (H1 : Heap) (locs1 : List Loc), gB s0 s D cI cL ad (g_up G 0 3 v) O H1 locs1 → W p l e R s m args below meth c H1 locs1 cells slots Q  (F0 m (pc + 3) ls rest)) : W p l e R s m args below meth c H locs cells slots Q  (F0 m pc ls (.int v :: .ref (ad 0) :: rest)) :=
  va_put (q0 := 0) (k := 3) (ty := .int) hC.1 hC.2.1 hC.2.2.2.2 in_BS t_BS t_BS_ok n_BS hC.2.2.2.1 hB.2.1 hB.1 hB.2.2.1 hB.2.2.2.1 rfl rfl (by decide) (hC.2.2.2.2 _ hl) (fun _ h => h) rfl (by decide +kernel) rfl rfl (Nat.le_of_ble_eq_true rfl) hdg (fun H1 locs1 hP hD hS => kk H1 locs1 ⟨hP, hB.2.1, hD, hS, hB.2.2.2.2⟩)
theorem gr_0_4 (hC : CallFix p m c cc nL s args gtb own) (hB : gB s0 s D cI cL ad G O H locs) {index : Nat} (hl : Cond.fieldLink own index "BackSteps" "machine" "LBackSteps$Machine;" ∈ gtb) (hdg : decode cc pc = .ok (.getfield index, 3)) (kk : W p l e R s m args below meth c H locs cells slots Q  (F0 m (pc + 3) ls (.ref (ad 3) :: rest))) : W p l e R s m args below meth c H locs cells slots Q  (F0 m pc ls (.ref (ad 0) :: rest)) :=
  va_get (q0 := 0) (k := 4) hC.1 hC.2.1 hC.2.2.2.2 in_BS hC.2.2.2.1 hB.2.1 hB.1 rfl rfl (by decide) (hC.2.2.2.2 _ hl) (fun _ h => h) rfl hdg kk
theorem gr_0_5 (hC : CallFix p m c cc nL s args gtb own) (hB : gB s0 s D cI cL ad G O H locs) {index : Nat} (hl : Cond.fieldLink own index "BackSteps" "again" "LBackSteps$Machine;" ∈ gtb) (hdg : decode cc pc = .ok (.getfield index, 3)) (kk : W p l e R s m args below meth c H locs cells slots Q  (F0 m (pc + 3) ls (.ref (ad 5) :: rest))) : W p l e R s m args below meth c H locs cells slots Q  (F0 m pc ls (.ref (ad 0) :: rest)) :=
  va_get (q0 := 0) (k := 5) hC.1 hC.2.1 hC.2.2.2.2 in_BS hC.2.2.2.1 hB.2.1 hB.1 rfl rfl (by decide) (hC.2.2.2.2 _ hl) (fun _ h => h) rfl hdg kk
theorem gr_0_6 (hC : CallFix p m c cc nL s args gtb own) (hB : gB s0 s D cI cL ad G O H locs) {index : Nat} (hl : Cond.fieldLink own index "BackSteps" "rows" "LBackSteps$Rows;" ∈ gtb) (hdg : decode cc pc = .ok (.getfield index, 3)) (kk : W p l e R s m args below meth c H locs cells slots Q  (F0 m (pc + 3) ls (.ref (ad 7) :: rest))) : W p l e R s m args below meth c H locs cells slots Q  (F0 m pc ls (.ref (ad 0) :: rest)) :=
  va_get (q0 := 0) (k := 6) hC.1 hC.2.1 hC.2.2.2.2 in_BS hC.2.2.2.1 hB.2.1 hB.1 rfl rfl (by decide) (hC.2.2.2.2 _ hl) (fun _ h => h) rfl hdg kk
theorem ga_1 (hC : CallFix p m c cc nL s args gtb own) (hB : gB s0 s D cI cL ad G O H locs) {i x : Int32} (hin : vp_in i 64) (hx : G 1 i.toNatClampNeg = x) (hdg : decode cc pc = .ok (.iaload, 1)) (kk : W p l e R s m args below meth c H locs cells slots Q  (F0 m (pc + 1) ls (.int x :: rest))) : W p l e R s m args below meth c H locs cells slots Q  (F0 m pc ls (.int i :: .ref (ad 1) :: rest)) := by
  subst hx
  exact va_iald (q0 := 1) (t0 := 0) hC.1 hC.2.1 hB.2.1 hB.1 rfl rfl hin hdg kk
theorem gs_1 (hC : CallFix p m c cc nL s args gtb own) (hB : gB s0 s D cI cL ad G O H locs) {i x : Int32} (hin : vp_in i 64) (hdg : decode cc pc = .ok (.iastore, 1)) (kk : ∀ (H1 : Heap) (locs1 : List Loc), gB s0 s D cI cL ad (g_up G 1 i.toNatClampNeg x) O H1 locs1 → W p l e R s m args below meth c H1 locs1 cells slots Q  (F0 m (pc + 1) ls rest)) : W p l e R s m args below meth c H locs cells slots Q  (F0 m pc ls (.int x :: .int i :: .ref (ad 1) :: rest)) :=
  va_iast (q0 := 1) (t0 := 0) hC.1 hC.2.1 hB.2.1 hB.1 hB.2.2.1 hB.2.2.2.1 rfl rfl hin hdg (fun H1 locs1 hP hD hS => kk H1 locs1 ⟨hP, hB.2.1, hD, hS, hB.2.2.2.2⟩)
theorem ga_2 (hC : CallFix p m c cc nL s args gtb own) (hB : gB s0 s D cI cL ad G O H locs) {i x : Int32} (hin : vp_in i 200) (hx : G 2 i.toNatClampNeg = x) (hdg : decode cc pc = .ok (.iaload, 1)) (kk : W p l e R s m args below meth c H locs cells slots Q  (F0 m (pc + 1) ls (.int x :: rest))) : W p l e R s m args below meth c H locs cells slots Q  (F0 m pc ls (.int i :: .ref (ad 2) :: rest)) := by
  subst hx
  exact va_iald (q0 := 2) (t0 := 0) hC.1 hC.2.1 hB.2.1 hB.1 rfl rfl hin hdg kk
theorem gs_2 (hC : CallFix p m c cc nL s args gtb own) (hB : gB s0 s D cI cL ad G O H locs) {i x : Int32} (hin : vp_in i 200) (hdg : decode cc pc = .ok (.iastore, 1)) (kk : ∀ (H1 : Heap) (locs1 : List Loc), gB s0 s D cI cL ad (g_up G 2 i.toNatClampNeg x) O H1 locs1 → W p l e R s m args below meth c H1 locs1 cells slots Q  (F0 m (pc + 1) ls rest)) : W p l e R s m args below meth c H locs cells slots Q  (F0 m pc ls (.int x :: .int i :: .ref (ad 2) :: rest)) :=
  va_iast (q0 := 2) (t0 := 0) hC.1 hC.2.1 hB.2.1 hB.1 hB.2.2.1 hB.2.2.2.1 rfl rfl hin hdg (fun H1 locs1 hP hD hS => kk H1 locs1 ⟨hP, hB.2.1, hD, hS, hB.2.2.2.2⟩)
theorem gr_3_0 (hC : CallFix p m c cc nL s args gtb own) (hB : gB s0 s D cI cL ad G O H locs) {index : Nat} (hl : Cond.fieldLink own index "BackSteps$Machine" "numbers" "[I" ∈ gtb) (hdg : decode cc pc = .ok (.getfield index, 3)) (kk : W p l e R s m args below meth c H locs cells slots Q  (F0 m (pc + 3) ls (.ref (ad 4) :: rest))) : W p l e R s m args below meth c H locs cells slots Q  (F0 m pc ls (.ref (ad 3) :: rest)) :=
  va_get (q0 := 3) (k := 0) hC.1 hC.2.1 hC.2.2.2.2 in_Ma hC.2.2.2.1 hB.2.1 hB.1 rfl rfl (by decide) (hC.2.2.2.2 _ hl) (fun _ h => h) rfl hdg kk
theorem gg_3_1 (hC : CallFix p m c cc nL s args gtb own) (hB : gB s0 s D cI cL ad G O H locs) {index : Nat} {x : Int32} (hx : G 3 1 = x) (hl : Cond.fieldLink own index "BackSteps$Machine" "place" "I" ∈ gtb) (hdg : decode cc pc = .ok (.getfield index, 3)) (kk : W p l e R s m args below meth c H locs cells slots Q  (F0 m (pc + 3) ls (.int x :: rest))) : W p l e R s m args below meth c H locs cells slots Q  (F0 m pc ls (.ref (ad 3) :: rest)) := by
  subst hx
  exact va_get (q0 := 3) (k := 1) hC.1 hC.2.1 hC.2.2.2.2 in_Ma hC.2.2.2.1 hB.2.1 hB.1 rfl rfl (by decide) (hC.2.2.2.2 _ hl) (fun _ h => h) rfl hdg kk
theorem gp_3_1 (hC : CallFix p m c cc nL s args gtb own) (hB : gB s0 s D cI cL ad G O H locs) {index : Nat} {v : Int32} (hl : Cond.fieldLink own index "BackSteps$Machine" "place" "I" ∈ gtb) (hdg : decode cc pc = .ok (.putfield index, 3)) (kk : ∀ (H1 : Heap) (locs1 : List Loc), gB s0 s D cI cL ad (g_up G 3 1 v) O H1 locs1 → W p l e R s m args below meth c H1 locs1 cells slots Q  (F0 m (pc + 3) ls rest)) : W p l e R s m args below meth c H locs cells slots Q  (F0 m pc ls (.int v :: .ref (ad 3) :: rest)) :=
  va_put (q0 := 3) (k := 1) (ty := .int) hC.1 hC.2.1 hC.2.2.2.2 in_Ma t_Ma t_Ma_ok n_Ma hC.2.2.2.1 hB.2.1 hB.1 hB.2.2.1 hB.2.2.2.1 rfl rfl (by decide) (hC.2.2.2.2 _ hl) (fun _ h => h) rfl (by decide +kernel) rfl rfl (Nat.le_of_ble_eq_true rfl) hdg (fun H1 locs1 hP hD hS => kk H1 locs1 ⟨hP, hB.2.1, hD, hS, hB.2.2.2.2⟩)
theorem gg_3_2 (hC : CallFix p m c cc nL s args gtb own) (hB : gB s0 s D cI cL ad G O H locs) {index : Nat} {x : Int32} (hx : G 3 2 = x) (hl : Cond.fieldLink own index "BackSteps$Machine" "taken" "I" ∈ gtb) (hdg : decode cc pc = .ok (.getfield index, 3)) (kk : W p l e R s m args below meth c H locs cells slots Q  (F0 m (pc + 3) ls (.int x :: rest))) : W p l e R s m args below meth c H locs cells slots Q  (F0 m pc ls (.ref (ad 3) :: rest)) := by
  subst hx
  exact va_get (q0 := 3) (k := 2) hC.1 hC.2.1 hC.2.2.2.2 in_Ma hC.2.2.2.1 hB.2.1 hB.1 rfl rfl (by decide) (hC.2.2.2.2 _ hl) (fun _ h => h) rfl hdg kk
theorem gp_3_2 (hC : CallFix p m c cc nL s args gtb own) (hB : gB s0 s D cI cL ad G O H locs) {index : Nat} {v : Int32} (hl : Cond.fieldLink own index "BackSteps$Machine" "taken" "I" ∈ gtb) (hdg : decode cc pc = .ok (.putfield index, 3)) (kk : ∀ (H1 : Heap) (locs1 : List Loc), gB s0 s D cI cL ad (g_up G 3 2 v) O H1 locs1 → W p l e R s m args below meth c H1 locs1 cells slots Q  (F0 m (pc + 3) ls rest)) : W p l e R s m args below meth c H locs cells slots Q  (F0 m pc ls (.int v :: .ref (ad 3) :: rest)) :=
  va_put (q0 := 3) (k := 2) (ty := .int) hC.1 hC.2.1 hC.2.2.2.2 in_Ma t_Ma t_Ma_ok n_Ma hC.2.2.2.1 hB.2.1 hB.1 hB.2.2.1 hB.2.2.2.1 rfl rfl (by decide) (hC.2.2.2.2 _ hl) (fun _ h => h) rfl (by decide +kernel) rfl rfl (Nat.le_of_ble_eq_true rfl) hdg (fun H1 locs1 hP hD hS => kk H1 locs1 ⟨hP, hB.2.1, hD, hS, hB.2.2.2.2⟩)
theorem gg_3_3 (hC : CallFix p m c cc nL s args gtb own) (hB : gB s0 s D cI cL ad G O H locs) {index : Nat} {x : Int32} (hx : G 3 3 = x) (hl : Cond.fieldLink own index "BackSteps$Machine" "outputs" "I" ∈ gtb) (hdg : decode cc pc = .ok (.getfield index, 3)) (kk : W p l e R s m args below meth c H locs cells slots Q  (F0 m (pc + 3) ls (.int x :: rest))) : W p l e R s m args below meth c H locs cells slots Q  (F0 m pc ls (.ref (ad 3) :: rest)) := by
  subst hx
  exact va_get (q0 := 3) (k := 3) hC.1 hC.2.1 hC.2.2.2.2 in_Ma hC.2.2.2.1 hB.2.1 hB.1 rfl rfl (by decide) (hC.2.2.2.2 _ hl) (fun _ h => h) rfl hdg kk
theorem gp_3_3 (hC : CallFix p m c cc nL s args gtb own) (hB : gB s0 s D cI cL ad G O H locs) {index : Nat} {v : Int32} (hl : Cond.fieldLink own index "BackSteps$Machine" "outputs" "I" ∈ gtb) (hdg : decode cc pc = .ok (.putfield index, 3)) (kk : ∀ (H1 : Heap) (locs1 : List Loc), gB s0 s D cI cL ad (g_up G 3 3 v) O H1 locs1 → W p l e R s m args below meth c H1 locs1 cells slots Q  (F0 m (pc + 3) ls rest)) : W p l e R s m args below meth c H locs cells slots Q  (F0 m pc ls (.int v :: .ref (ad 3) :: rest)) :=
  va_put (q0 := 3) (k := 3) (ty := .int) hC.1 hC.2.1 hC.2.2.2.2 in_Ma t_Ma t_Ma_ok n_Ma hC.2.2.2.1 hB.2.1 hB.1 hB.2.2.1 hB.2.2.2.1 rfl rfl (by decide) (hC.2.2.2.2 _ hl) (fun _ h => h) rfl (by decide +kernel) rfl rfl (Nat.le_of_ble_eq_true rfl) hdg (fun H1 locs1 hP hD hS => kk H1 locs1 ⟨hP, hB.2.1, hD, hS, hB.2.2.2.2⟩)
theorem gg_3_4 (hC : CallFix p m c cc nL s args gtb own) (hB : gB s0 s D cI cL ad G O H locs) {index : Nat} {x : Int32} (hx : G 3 4 = x) (hl : Cond.fieldLink own index "BackSteps$Machine" "sum" "I" ∈ gtb) (hdg : decode cc pc = .ok (.getfield index, 3)) (kk : W p l e R s m args below meth c H locs cells slots Q  (F0 m (pc + 3) ls (.int x :: rest))) : W p l e R s m args below meth c H locs cells slots Q  (F0 m pc ls (.ref (ad 3) :: rest)) := by
  subst hx
  exact va_get (q0 := 3) (k := 4) hC.1 hC.2.1 hC.2.2.2.2 in_Ma hC.2.2.2.1 hB.2.1 hB.1 rfl rfl (by decide) (hC.2.2.2.2 _ hl) (fun _ h => h) rfl hdg kk
theorem gp_3_4 (hC : CallFix p m c cc nL s args gtb own) (hB : gB s0 s D cI cL ad G O H locs) {index : Nat} {v : Int32} (hl : Cond.fieldLink own index "BackSteps$Machine" "sum" "I" ∈ gtb) (hdg : decode cc pc = .ok (.putfield index, 3)) (kk : ∀ (H1 : Heap) (locs1 : List Loc), gB s0 s D cI cL ad (g_up G 3 4 v) O H1 locs1 → W p l e R s m args below meth c H1 locs1 cells slots Q  (F0 m (pc + 3) ls rest)) : W p l e R s m args below meth c H locs cells slots Q  (F0 m pc ls (.int v :: .ref (ad 3) :: rest)) :=
  va_put (q0 := 3) (k := 4) (ty := .int) hC.1 hC.2.1 hC.2.2.2.2 in_Ma t_Ma t_Ma_ok n_Ma hC.2.2.2.1 hB.2.1 hB.1 hB.2.2.1 hB.2.2.2.1 rfl rfl (by decide) (hC.2.2.2.2 _ hl) (fun _ h => h) rfl (by decide +kernel) rfl rfl (Nat.le_of_ble_eq_true rfl) hdg (fun H1 locs1 hP hD hS => kk H1 locs1 ⟨hP, hB.2.1, hD, hS, hB.2.2.2.2⟩)
theorem gg_3_5 (hC : CallFix p m c cc nL s args gtb own) (hB : gB s0 s D cI cL ad G O H locs) {index : Nat} {x : Int32} (hx : G 3 5 = x) (hl : Cond.fieldLink own index "BackSteps$Machine" "halted" "I" ∈ gtb) (hdg : decode cc pc = .ok (.getfield index, 3)) (kk : W p l e R s m args below meth c H locs cells slots Q  (F0 m (pc + 3) ls (.int x :: rest))) : W p l e R s m args below meth c H locs cells slots Q  (F0 m pc ls (.ref (ad 3) :: rest)) := by
  subst hx
  exact va_get (q0 := 3) (k := 5) hC.1 hC.2.1 hC.2.2.2.2 in_Ma hC.2.2.2.1 hB.2.1 hB.1 rfl rfl (by decide) (hC.2.2.2.2 _ hl) (fun _ h => h) rfl hdg kk
theorem gp_3_5 (hC : CallFix p m c cc nL s args gtb own) (hB : gB s0 s D cI cL ad G O H locs) {index : Nat} {v : Int32} (hl : Cond.fieldLink own index "BackSteps$Machine" "halted" "I" ∈ gtb) (hdg : decode cc pc = .ok (.putfield index, 3)) (kk : ∀ (H1 : Heap) (locs1 : List Loc), gB s0 s D cI cL ad (g_up G 3 5 v) O H1 locs1 → W p l e R s m args below meth c H1 locs1 cells slots Q  (F0 m (pc + 3) ls rest)) : W p l e R s m args below meth c H locs cells slots Q  (F0 m pc ls (.int v :: .ref (ad 3) :: rest)) :=
  va_put (q0 := 3) (k := 5) (ty := .int) hC.1 hC.2.1 hC.2.2.2.2 in_Ma t_Ma t_Ma_ok n_Ma hC.2.2.2.1 hB.2.1 hB.1 hB.2.2.1 hB.2.2.2.1 rfl rfl (by decide) (hC.2.2.2.2 _ hl) (fun _ h => h) rfl (by decide +kernel) rfl rfl (Nat.le_of_ble_eq_true rfl) hdg (fun H1 locs1 hP hD hS => kk H1 locs1 ⟨hP, hB.2.1, hD, hS, hB.2.2.2.2⟩)
theorem gg_3_6 (hC : CallFix p m c cc nL s args gtb own) (hB : gB s0 s D cI cL ad G O H locs) {index : Nat} {x : Int32} (hx : G 3 6 = x) (hl : Cond.fieldLink own index "BackSteps$Machine" "written" "I" ∈ gtb) (hdg : decode cc pc = .ok (.getfield index, 3)) (kk : W p l e R s m args below meth c H locs cells slots Q  (F0 m (pc + 3) ls (.int x :: rest))) : W p l e R s m args below meth c H locs cells slots Q  (F0 m pc ls (.ref (ad 3) :: rest)) := by
  subst hx
  exact va_get (q0 := 3) (k := 6) hC.1 hC.2.1 hC.2.2.2.2 in_Ma hC.2.2.2.1 hB.2.1 hB.1 rfl rfl (by decide) (hC.2.2.2.2 _ hl) (fun _ h => h) rfl hdg kk
theorem gp_3_6 (hC : CallFix p m c cc nL s args gtb own) (hB : gB s0 s D cI cL ad G O H locs) {index : Nat} {v : Int32} (hl : Cond.fieldLink own index "BackSteps$Machine" "written" "I" ∈ gtb) (hdg : decode cc pc = .ok (.putfield index, 3)) (kk : ∀ (H1 : Heap) (locs1 : List Loc), gB s0 s D cI cL ad (g_up G 3 6 v) O H1 locs1 → W p l e R s m args below meth c H1 locs1 cells slots Q  (F0 m (pc + 3) ls rest)) : W p l e R s m args below meth c H locs cells slots Q  (F0 m pc ls (.int v :: .ref (ad 3) :: rest)) :=
  va_put (q0 := 3) (k := 6) (ty := .int) hC.1 hC.2.1 hC.2.2.2.2 in_Ma t_Ma t_Ma_ok n_Ma hC.2.2.2.1 hB.2.1 hB.1 hB.2.2.1 hB.2.2.2.1 rfl rfl (by decide) (hC.2.2.2.2 _ hl) (fun _ h => h) rfl (by decide +kernel) rfl rfl (Nat.le_of_ble_eq_true rfl) hdg (fun H1 locs1 hP hD hS => kk H1 locs1 ⟨hP, hB.2.1, hD, hS, hB.2.2.2.2⟩)
theorem gg_3_7 (hC : CallFix p m c cc nL s args gtb own) (hB : gB s0 s D cI cL ad G O H locs) {index : Nat} {x : Int32} (hx : G 3 7 = x) (hl : Cond.fieldLink own index "BackSteps$Machine" "numberBefore" "I" ∈ gtb) (hdg : decode cc pc = .ok (.getfield index, 3)) (kk : W p l e R s m args below meth c H locs cells slots Q  (F0 m (pc + 3) ls (.int x :: rest))) : W p l e R s m args below meth c H locs cells slots Q  (F0 m pc ls (.ref (ad 3) :: rest)) := by
  subst hx
  exact va_get (q0 := 3) (k := 7) hC.1 hC.2.1 hC.2.2.2.2 in_Ma hC.2.2.2.1 hB.2.1 hB.1 rfl rfl (by decide) (hC.2.2.2.2 _ hl) (fun _ h => h) rfl hdg kk
theorem gp_3_7 (hC : CallFix p m c cc nL s args gtb own) (hB : gB s0 s D cI cL ad G O H locs) {index : Nat} {v : Int32} (hl : Cond.fieldLink own index "BackSteps$Machine" "numberBefore" "I" ∈ gtb) (hdg : decode cc pc = .ok (.putfield index, 3)) (kk : ∀ (H1 : Heap) (locs1 : List Loc), gB s0 s D cI cL ad (g_up G 3 7 v) O H1 locs1 → W p l e R s m args below meth c H1 locs1 cells slots Q  (F0 m (pc + 3) ls rest)) : W p l e R s m args below meth c H locs cells slots Q  (F0 m pc ls (.int v :: .ref (ad 3) :: rest)) :=
  va_put (q0 := 3) (k := 7) (ty := .int) hC.1 hC.2.1 hC.2.2.2.2 in_Ma t_Ma t_Ma_ok n_Ma hC.2.2.2.1 hB.2.1 hB.1 hB.2.2.1 hB.2.2.2.1 rfl rfl (by decide) (hC.2.2.2.2 _ hl) (fun _ h => h) rfl (by decide +kernel) rfl rfl (Nat.le_of_ble_eq_true rfl) hdg (fun H1 locs1 hP hD hS => kk H1 locs1 ⟨hP, hB.2.1, hD, hS, hB.2.2.2.2⟩)
theorem gg_3_8 (hC : CallFix p m c cc nL s args gtb own) (hB : gB s0 s D cI cL ad G O H locs) {index : Nat} {x : Int32} (hx : G 3 8 = x) (hl : Cond.fieldLink own index "BackSteps$Machine" "placeBefore" "I" ∈ gtb) (hdg : decode cc pc = .ok (.getfield index, 3)) (kk : W p l e R s m args below meth c H locs cells slots Q  (F0 m (pc + 3) ls (.int x :: rest))) : W p l e R s m args below meth c H locs cells slots Q  (F0 m pc ls (.ref (ad 3) :: rest)) := by
  subst hx
  exact va_get (q0 := 3) (k := 8) hC.1 hC.2.1 hC.2.2.2.2 in_Ma hC.2.2.2.1 hB.2.1 hB.1 rfl rfl (by decide) (hC.2.2.2.2 _ hl) (fun _ h => h) rfl hdg kk
theorem gp_3_8 (hC : CallFix p m c cc nL s args gtb own) (hB : gB s0 s D cI cL ad G O H locs) {index : Nat} {v : Int32} (hl : Cond.fieldLink own index "BackSteps$Machine" "placeBefore" "I" ∈ gtb) (hdg : decode cc pc = .ok (.putfield index, 3)) (kk : ∀ (H1 : Heap) (locs1 : List Loc), gB s0 s D cI cL ad (g_up G 3 8 v) O H1 locs1 → W p l e R s m args below meth c H1 locs1 cells slots Q  (F0 m (pc + 3) ls rest)) : W p l e R s m args below meth c H locs cells slots Q  (F0 m pc ls (.int v :: .ref (ad 3) :: rest)) :=
  va_put (q0 := 3) (k := 8) (ty := .int) hC.1 hC.2.1 hC.2.2.2.2 in_Ma t_Ma t_Ma_ok n_Ma hC.2.2.2.1 hB.2.1 hB.1 hB.2.2.1 hB.2.2.2.1 rfl rfl (by decide) (hC.2.2.2.2 _ hl) (fun _ h => h) rfl (by decide +kernel) rfl rfl (Nat.le_of_ble_eq_true rfl) hdg (fun H1 locs1 hP hD hS => kk H1 locs1 ⟨hP, hB.2.1, hD, hS, hB.2.2.2.2⟩)
theorem gg_3_9 (hC : CallFix p m c cc nL s args gtb own) (hB : gB s0 s D cI cL ad G O H locs) {index : Nat} {x : Int32} (hx : G 3 9 = x) (hl : Cond.fieldLink own index "BackSteps$Machine" "takenBefore" "I" ∈ gtb) (hdg : decode cc pc = .ok (.getfield index, 3)) (kk : W p l e R s m args below meth c H locs cells slots Q  (F0 m (pc + 3) ls (.int x :: rest))) : W p l e R s m args below meth c H locs cells slots Q  (F0 m pc ls (.ref (ad 3) :: rest)) := by
  subst hx
  exact va_get (q0 := 3) (k := 9) hC.1 hC.2.1 hC.2.2.2.2 in_Ma hC.2.2.2.1 hB.2.1 hB.1 rfl rfl (by decide) (hC.2.2.2.2 _ hl) (fun _ h => h) rfl hdg kk
theorem gp_3_9 (hC : CallFix p m c cc nL s args gtb own) (hB : gB s0 s D cI cL ad G O H locs) {index : Nat} {v : Int32} (hl : Cond.fieldLink own index "BackSteps$Machine" "takenBefore" "I" ∈ gtb) (hdg : decode cc pc = .ok (.putfield index, 3)) (kk : ∀ (H1 : Heap) (locs1 : List Loc), gB s0 s D cI cL ad (g_up G 3 9 v) O H1 locs1 → W p l e R s m args below meth c H1 locs1 cells slots Q  (F0 m (pc + 3) ls rest)) : W p l e R s m args below meth c H locs cells slots Q  (F0 m pc ls (.int v :: .ref (ad 3) :: rest)) :=
  va_put (q0 := 3) (k := 9) (ty := .int) hC.1 hC.2.1 hC.2.2.2.2 in_Ma t_Ma t_Ma_ok n_Ma hC.2.2.2.1 hB.2.1 hB.1 hB.2.2.1 hB.2.2.2.1 rfl rfl (by decide) (hC.2.2.2.2 _ hl) (fun _ h => h) rfl (by decide +kernel) rfl rfl (Nat.le_of_ble_eq_true rfl) hdg (fun H1 locs1 hP hD hS => kk H1 locs1 ⟨hP, hB.2.1, hD, hS, hB.2.2.2.2⟩)
theorem gg_3_10 (hC : CallFix p m c cc nL s args gtb own) (hB : gB s0 s D cI cL ad G O H locs) {index : Nat} {x : Int32} (hx : G 3 10 = x) (hl : Cond.fieldLink own index "BackSteps$Machine" "outputsBefore" "I" ∈ gtb) (hdg : decode cc pc = .ok (.getfield index, 3)) (kk : W p l e R s m args below meth c H locs cells slots Q  (F0 m (pc + 3) ls (.int x :: rest))) : W p l e R s m args below meth c H locs cells slots Q  (F0 m pc ls (.ref (ad 3) :: rest)) := by
  subst hx
  exact va_get (q0 := 3) (k := 10) hC.1 hC.2.1 hC.2.2.2.2 in_Ma hC.2.2.2.1 hB.2.1 hB.1 rfl rfl (by decide) (hC.2.2.2.2 _ hl) (fun _ h => h) rfl hdg kk
theorem gp_3_10 (hC : CallFix p m c cc nL s args gtb own) (hB : gB s0 s D cI cL ad G O H locs) {index : Nat} {v : Int32} (hl : Cond.fieldLink own index "BackSteps$Machine" "outputsBefore" "I" ∈ gtb) (hdg : decode cc pc = .ok (.putfield index, 3)) (kk : ∀ (H1 : Heap) (locs1 : List Loc), gB s0 s D cI cL ad (g_up G 3 10 v) O H1 locs1 → W p l e R s m args below meth c H1 locs1 cells slots Q  (F0 m (pc + 3) ls rest)) : W p l e R s m args below meth c H locs cells slots Q  (F0 m pc ls (.int v :: .ref (ad 3) :: rest)) :=
  va_put (q0 := 3) (k := 10) (ty := .int) hC.1 hC.2.1 hC.2.2.2.2 in_Ma t_Ma t_Ma_ok n_Ma hC.2.2.2.1 hB.2.1 hB.1 hB.2.2.1 hB.2.2.2.1 rfl rfl (by decide) (hC.2.2.2.2 _ hl) (fun _ h => h) rfl (by decide +kernel) rfl rfl (Nat.le_of_ble_eq_true rfl) hdg (fun H1 locs1 hP hD hS => kk H1 locs1 ⟨hP, hB.2.1, hD, hS, hB.2.2.2.2⟩)
theorem gg_3_11 (hC : CallFix p m c cc nL s args gtb own) (hB : gB s0 s D cI cL ad G O H locs) {index : Nat} {x : Int32} (hx : G 3 11 = x) (hl : Cond.fieldLink own index "BackSteps$Machine" "sumBefore" "I" ∈ gtb) (hdg : decode cc pc = .ok (.getfield index, 3)) (kk : W p l e R s m args below meth c H locs cells slots Q  (F0 m (pc + 3) ls (.int x :: rest))) : W p l e R s m args below meth c H locs cells slots Q  (F0 m pc ls (.ref (ad 3) :: rest)) := by
  subst hx
  exact va_get (q0 := 3) (k := 11) hC.1 hC.2.1 hC.2.2.2.2 in_Ma hC.2.2.2.1 hB.2.1 hB.1 rfl rfl (by decide) (hC.2.2.2.2 _ hl) (fun _ h => h) rfl hdg kk
theorem gp_3_11 (hC : CallFix p m c cc nL s args gtb own) (hB : gB s0 s D cI cL ad G O H locs) {index : Nat} {v : Int32} (hl : Cond.fieldLink own index "BackSteps$Machine" "sumBefore" "I" ∈ gtb) (hdg : decode cc pc = .ok (.putfield index, 3)) (kk : ∀ (H1 : Heap) (locs1 : List Loc), gB s0 s D cI cL ad (g_up G 3 11 v) O H1 locs1 → W p l e R s m args below meth c H1 locs1 cells slots Q  (F0 m (pc + 3) ls rest)) : W p l e R s m args below meth c H locs cells slots Q  (F0 m pc ls (.int v :: .ref (ad 3) :: rest)) :=
  va_put (q0 := 3) (k := 11) (ty := .int) hC.1 hC.2.1 hC.2.2.2.2 in_Ma t_Ma t_Ma_ok n_Ma hC.2.2.2.1 hB.2.1 hB.1 hB.2.2.1 hB.2.2.2.1 rfl rfl (by decide) (hC.2.2.2.2 _ hl) (fun _ h => h) rfl (by decide +kernel) rfl rfl (Nat.le_of_ble_eq_true rfl) hdg (fun H1 locs1 hP hD hS => kk H1 locs1 ⟨hP, hB.2.1, hD, hS, hB.2.2.2.2⟩)
theorem ga_4 (hC : CallFix p m c cc nL s args gtb own) (hB : gB s0 s D cI cL ad G O H locs) {i x : Int32} (hin : vp_in i 264) (hx : G 4 i.toNatClampNeg = x) (hdg : decode cc pc = .ok (.iaload, 1)) (kk : W p l e R s m args below meth c H locs cells slots Q  (F0 m (pc + 1) ls (.int x :: rest))) : W p l e R s m args below meth c H locs cells slots Q  (F0 m pc ls (.int i :: .ref (ad 4) :: rest)) := by
  subst hx
  exact va_iald (q0 := 4) (t0 := 0) hC.1 hC.2.1 hB.2.1 hB.1 rfl rfl hin hdg kk
theorem gs_4 (hC : CallFix p m c cc nL s args gtb own) (hB : gB s0 s D cI cL ad G O H locs) {i x : Int32} (hin : vp_in i 264) (hdg : decode cc pc = .ok (.iastore, 1)) (kk : ∀ (H1 : Heap) (locs1 : List Loc), gB s0 s D cI cL ad (g_up G 4 i.toNatClampNeg x) O H1 locs1 → W p l e R s m args below meth c H1 locs1 cells slots Q  (F0 m (pc + 1) ls rest)) : W p l e R s m args below meth c H locs cells slots Q  (F0 m pc ls (.int x :: .int i :: .ref (ad 4) :: rest)) :=
  va_iast (q0 := 4) (t0 := 0) hC.1 hC.2.1 hB.2.1 hB.1 hB.2.2.1 hB.2.2.2.1 rfl rfl hin hdg (fun H1 locs1 hP hD hS => kk H1 locs1 ⟨hP, hB.2.1, hD, hS, hB.2.2.2.2⟩)
theorem gr_5_0 (hC : CallFix p m c cc nL s args gtb own) (hB : gB s0 s D cI cL ad G O H locs) {index : Nat} (hl : Cond.fieldLink own index "BackSteps$Machine" "numbers" "[I" ∈ gtb) (hdg : decode cc pc = .ok (.getfield index, 3)) (kk : W p l e R s m args below meth c H locs cells slots Q  (F0 m (pc + 3) ls (.ref (ad 6) :: rest))) : W p l e R s m args below meth c H locs cells slots Q  (F0 m pc ls (.ref (ad 5) :: rest)) :=
  va_get (q0 := 5) (k := 0) hC.1 hC.2.1 hC.2.2.2.2 in_Ma hC.2.2.2.1 hB.2.1 hB.1 rfl rfl (by decide) (hC.2.2.2.2 _ hl) (fun _ h => h) rfl hdg kk
theorem gg_5_1 (hC : CallFix p m c cc nL s args gtb own) (hB : gB s0 s D cI cL ad G O H locs) {index : Nat} {x : Int32} (hx : G 5 1 = x) (hl : Cond.fieldLink own index "BackSteps$Machine" "place" "I" ∈ gtb) (hdg : decode cc pc = .ok (.getfield index, 3)) (kk : W p l e R s m args below meth c H locs cells slots Q  (F0 m (pc + 3) ls (.int x :: rest))) : W p l e R s m args below meth c H locs cells slots Q  (F0 m pc ls (.ref (ad 5) :: rest)) := by
  subst hx
  exact va_get (q0 := 5) (k := 1) hC.1 hC.2.1 hC.2.2.2.2 in_Ma hC.2.2.2.1 hB.2.1 hB.1 rfl rfl (by decide) (hC.2.2.2.2 _ hl) (fun _ h => h) rfl hdg kk
theorem gp_5_1 (hC : CallFix p m c cc nL s args gtb own) (hB : gB s0 s D cI cL ad G O H locs) {index : Nat} {v : Int32} (hl : Cond.fieldLink own index "BackSteps$Machine" "place" "I" ∈ gtb) (hdg : decode cc pc = .ok (.putfield index, 3)) (kk : ∀ (H1 : Heap) (locs1 : List Loc), gB s0 s D cI cL ad (g_up G 5 1 v) O H1 locs1 → W p l e R s m args below meth c H1 locs1 cells slots Q  (F0 m (pc + 3) ls rest)) : W p l e R s m args below meth c H locs cells slots Q  (F0 m pc ls (.int v :: .ref (ad 5) :: rest)) :=
  va_put (q0 := 5) (k := 1) (ty := .int) hC.1 hC.2.1 hC.2.2.2.2 in_Ma t_Ma t_Ma_ok n_Ma hC.2.2.2.1 hB.2.1 hB.1 hB.2.2.1 hB.2.2.2.1 rfl rfl (by decide) (hC.2.2.2.2 _ hl) (fun _ h => h) rfl (by decide +kernel) rfl rfl (Nat.le_of_ble_eq_true rfl) hdg (fun H1 locs1 hP hD hS => kk H1 locs1 ⟨hP, hB.2.1, hD, hS, hB.2.2.2.2⟩)
theorem gg_5_2 (hC : CallFix p m c cc nL s args gtb own) (hB : gB s0 s D cI cL ad G O H locs) {index : Nat} {x : Int32} (hx : G 5 2 = x) (hl : Cond.fieldLink own index "BackSteps$Machine" "taken" "I" ∈ gtb) (hdg : decode cc pc = .ok (.getfield index, 3)) (kk : W p l e R s m args below meth c H locs cells slots Q  (F0 m (pc + 3) ls (.int x :: rest))) : W p l e R s m args below meth c H locs cells slots Q  (F0 m pc ls (.ref (ad 5) :: rest)) := by
  subst hx
  exact va_get (q0 := 5) (k := 2) hC.1 hC.2.1 hC.2.2.2.2 in_Ma hC.2.2.2.1 hB.2.1 hB.1 rfl rfl (by decide) (hC.2.2.2.2 _ hl) (fun _ h => h) rfl hdg kk
theorem gp_5_2 (hC : CallFix p m c cc nL s args gtb own) (hB : gB s0 s D cI cL ad G O H locs) {index : Nat} {v : Int32} (hl : Cond.fieldLink own index "BackSteps$Machine" "taken" "I" ∈ gtb) (hdg : decode cc pc = .ok (.putfield index, 3)) (kk : ∀ (H1 : Heap) (locs1 : List Loc), gB s0 s D cI cL ad (g_up G 5 2 v) O H1 locs1 → W p l e R s m args below meth c H1 locs1 cells slots Q  (F0 m (pc + 3) ls rest)) : W p l e R s m args below meth c H locs cells slots Q  (F0 m pc ls (.int v :: .ref (ad 5) :: rest)) :=
  va_put (q0 := 5) (k := 2) (ty := .int) hC.1 hC.2.1 hC.2.2.2.2 in_Ma t_Ma t_Ma_ok n_Ma hC.2.2.2.1 hB.2.1 hB.1 hB.2.2.1 hB.2.2.2.1 rfl rfl (by decide) (hC.2.2.2.2 _ hl) (fun _ h => h) rfl (by decide +kernel) rfl rfl (Nat.le_of_ble_eq_true rfl) hdg (fun H1 locs1 hP hD hS => kk H1 locs1 ⟨hP, hB.2.1, hD, hS, hB.2.2.2.2⟩)
theorem gg_5_3 (hC : CallFix p m c cc nL s args gtb own) (hB : gB s0 s D cI cL ad G O H locs) {index : Nat} {x : Int32} (hx : G 5 3 = x) (hl : Cond.fieldLink own index "BackSteps$Machine" "outputs" "I" ∈ gtb) (hdg : decode cc pc = .ok (.getfield index, 3)) (kk : W p l e R s m args below meth c H locs cells slots Q  (F0 m (pc + 3) ls (.int x :: rest))) : W p l e R s m args below meth c H locs cells slots Q  (F0 m pc ls (.ref (ad 5) :: rest)) := by
  subst hx
  exact va_get (q0 := 5) (k := 3) hC.1 hC.2.1 hC.2.2.2.2 in_Ma hC.2.2.2.1 hB.2.1 hB.1 rfl rfl (by decide) (hC.2.2.2.2 _ hl) (fun _ h => h) rfl hdg kk
theorem gp_5_3 (hC : CallFix p m c cc nL s args gtb own) (hB : gB s0 s D cI cL ad G O H locs) {index : Nat} {v : Int32} (hl : Cond.fieldLink own index "BackSteps$Machine" "outputs" "I" ∈ gtb) (hdg : decode cc pc = .ok (.putfield index, 3)) (kk : ∀ (H1 : Heap) (locs1 : List Loc), gB s0 s D cI cL ad (g_up G 5 3 v) O H1 locs1 → W p l e R s m args below meth c H1 locs1 cells slots Q  (F0 m (pc + 3) ls rest)) : W p l e R s m args below meth c H locs cells slots Q  (F0 m pc ls (.int v :: .ref (ad 5) :: rest)) :=
  va_put (q0 := 5) (k := 3) (ty := .int) hC.1 hC.2.1 hC.2.2.2.2 in_Ma t_Ma t_Ma_ok n_Ma hC.2.2.2.1 hB.2.1 hB.1 hB.2.2.1 hB.2.2.2.1 rfl rfl (by decide) (hC.2.2.2.2 _ hl) (fun _ h => h) rfl (by decide +kernel) rfl rfl (Nat.le_of_ble_eq_true rfl) hdg (fun H1 locs1 hP hD hS => kk H1 locs1 ⟨hP, hB.2.1, hD, hS, hB.2.2.2.2⟩)
theorem gg_5_4 (hC : CallFix p m c cc nL s args gtb own) (hB : gB s0 s D cI cL ad G O H locs) {index : Nat} {x : Int32} (hx : G 5 4 = x) (hl : Cond.fieldLink own index "BackSteps$Machine" "sum" "I" ∈ gtb) (hdg : decode cc pc = .ok (.getfield index, 3)) (kk : W p l e R s m args below meth c H locs cells slots Q  (F0 m (pc + 3) ls (.int x :: rest))) : W p l e R s m args below meth c H locs cells slots Q  (F0 m pc ls (.ref (ad 5) :: rest)) := by
  subst hx
  exact va_get (q0 := 5) (k := 4) hC.1 hC.2.1 hC.2.2.2.2 in_Ma hC.2.2.2.1 hB.2.1 hB.1 rfl rfl (by decide) (hC.2.2.2.2 _ hl) (fun _ h => h) rfl hdg kk
theorem gp_5_4 (hC : CallFix p m c cc nL s args gtb own) (hB : gB s0 s D cI cL ad G O H locs) {index : Nat} {v : Int32} (hl : Cond.fieldLink own index "BackSteps$Machine" "sum" "I" ∈ gtb) (hdg : decode cc pc = .ok (.putfield index, 3)) (kk : ∀ (H1 : Heap) (locs1 : List Loc), gB s0 s D cI cL ad (g_up G 5 4 v) O H1 locs1 → W p l e R s m args below meth c H1 locs1 cells slots Q  (F0 m (pc + 3) ls rest)) : W p l e R s m args below meth c H locs cells slots Q  (F0 m pc ls (.int v :: .ref (ad 5) :: rest)) :=
  va_put (q0 := 5) (k := 4) (ty := .int) hC.1 hC.2.1 hC.2.2.2.2 in_Ma t_Ma t_Ma_ok n_Ma hC.2.2.2.1 hB.2.1 hB.1 hB.2.2.1 hB.2.2.2.1 rfl rfl (by decide) (hC.2.2.2.2 _ hl) (fun _ h => h) rfl (by decide +kernel) rfl rfl (Nat.le_of_ble_eq_true rfl) hdg (fun H1 locs1 hP hD hS => kk H1 locs1 ⟨hP, hB.2.1, hD, hS, hB.2.2.2.2⟩)
theorem gg_5_5 (hC : CallFix p m c cc nL s args gtb own) (hB : gB s0 s D cI cL ad G O H locs) {index : Nat} {x : Int32} (hx : G 5 5 = x) (hl : Cond.fieldLink own index "BackSteps$Machine" "halted" "I" ∈ gtb) (hdg : decode cc pc = .ok (.getfield index, 3)) (kk : W p l e R s m args below meth c H locs cells slots Q  (F0 m (pc + 3) ls (.int x :: rest))) : W p l e R s m args below meth c H locs cells slots Q  (F0 m pc ls (.ref (ad 5) :: rest)) := by
  subst hx
  exact va_get (q0 := 5) (k := 5) hC.1 hC.2.1 hC.2.2.2.2 in_Ma hC.2.2.2.1 hB.2.1 hB.1 rfl rfl (by decide) (hC.2.2.2.2 _ hl) (fun _ h => h) rfl hdg kk
theorem gp_5_5 (hC : CallFix p m c cc nL s args gtb own) (hB : gB s0 s D cI cL ad G O H locs) {index : Nat} {v : Int32} (hl : Cond.fieldLink own index "BackSteps$Machine" "halted" "I" ∈ gtb) (hdg : decode cc pc = .ok (.putfield index, 3)) (kk : ∀ (H1 : Heap) (locs1 : List Loc), gB s0 s D cI cL ad (g_up G 5 5 v) O H1 locs1 → W p l e R s m args below meth c H1 locs1 cells slots Q  (F0 m (pc + 3) ls rest)) : W p l e R s m args below meth c H locs cells slots Q  (F0 m pc ls (.int v :: .ref (ad 5) :: rest)) :=
  va_put (q0 := 5) (k := 5) (ty := .int) hC.1 hC.2.1 hC.2.2.2.2 in_Ma t_Ma t_Ma_ok n_Ma hC.2.2.2.1 hB.2.1 hB.1 hB.2.2.1 hB.2.2.2.1 rfl rfl (by decide) (hC.2.2.2.2 _ hl) (fun _ h => h) rfl (by decide +kernel) rfl rfl (Nat.le_of_ble_eq_true rfl) hdg (fun H1 locs1 hP hD hS => kk H1 locs1 ⟨hP, hB.2.1, hD, hS, hB.2.2.2.2⟩)
theorem gg_5_6 (hC : CallFix p m c cc nL s args gtb own) (hB : gB s0 s D cI cL ad G O H locs) {index : Nat} {x : Int32} (hx : G 5 6 = x) (hl : Cond.fieldLink own index "BackSteps$Machine" "written" "I" ∈ gtb) (hdg : decode cc pc = .ok (.getfield index, 3)) (kk : W p l e R s m args below meth c H locs cells slots Q  (F0 m (pc + 3) ls (.int x :: rest))) : W p l e R s m args below meth c H locs cells slots Q  (F0 m pc ls (.ref (ad 5) :: rest)) := by
  subst hx
  exact va_get (q0 := 5) (k := 6) hC.1 hC.2.1 hC.2.2.2.2 in_Ma hC.2.2.2.1 hB.2.1 hB.1 rfl rfl (by decide) (hC.2.2.2.2 _ hl) (fun _ h => h) rfl hdg kk
theorem gp_5_6 (hC : CallFix p m c cc nL s args gtb own) (hB : gB s0 s D cI cL ad G O H locs) {index : Nat} {v : Int32} (hl : Cond.fieldLink own index "BackSteps$Machine" "written" "I" ∈ gtb) (hdg : decode cc pc = .ok (.putfield index, 3)) (kk : ∀ (H1 : Heap) (locs1 : List Loc), gB s0 s D cI cL ad (g_up G 5 6 v) O H1 locs1 → W p l e R s m args below meth c H1 locs1 cells slots Q  (F0 m (pc + 3) ls rest)) : W p l e R s m args below meth c H locs cells slots Q  (F0 m pc ls (.int v :: .ref (ad 5) :: rest)) :=
  va_put (q0 := 5) (k := 6) (ty := .int) hC.1 hC.2.1 hC.2.2.2.2 in_Ma t_Ma t_Ma_ok n_Ma hC.2.2.2.1 hB.2.1 hB.1 hB.2.2.1 hB.2.2.2.1 rfl rfl (by decide) (hC.2.2.2.2 _ hl) (fun _ h => h) rfl (by decide +kernel) rfl rfl (Nat.le_of_ble_eq_true rfl) hdg (fun H1 locs1 hP hD hS => kk H1 locs1 ⟨hP, hB.2.1, hD, hS, hB.2.2.2.2⟩)
theorem gg_5_7 (hC : CallFix p m c cc nL s args gtb own) (hB : gB s0 s D cI cL ad G O H locs) {index : Nat} {x : Int32} (hx : G 5 7 = x) (hl : Cond.fieldLink own index "BackSteps$Machine" "numberBefore" "I" ∈ gtb) (hdg : decode cc pc = .ok (.getfield index, 3)) (kk : W p l e R s m args below meth c H locs cells slots Q  (F0 m (pc + 3) ls (.int x :: rest))) : W p l e R s m args below meth c H locs cells slots Q  (F0 m pc ls (.ref (ad 5) :: rest)) := by
  subst hx
  exact va_get (q0 := 5) (k := 7) hC.1 hC.2.1 hC.2.2.2.2 in_Ma hC.2.2.2.1 hB.2.1 hB.1 rfl rfl (by decide) (hC.2.2.2.2 _ hl) (fun _ h => h) rfl hdg kk
theorem gp_5_7 (hC : CallFix p m c cc nL s args gtb own) (hB : gB s0 s D cI cL ad G O H locs) {index : Nat} {v : Int32} (hl : Cond.fieldLink own index "BackSteps$Machine" "numberBefore" "I" ∈ gtb) (hdg : decode cc pc = .ok (.putfield index, 3)) (kk : ∀ (H1 : Heap) (locs1 : List Loc), gB s0 s D cI cL ad (g_up G 5 7 v) O H1 locs1 → W p l e R s m args below meth c H1 locs1 cells slots Q  (F0 m (pc + 3) ls rest)) : W p l e R s m args below meth c H locs cells slots Q  (F0 m pc ls (.int v :: .ref (ad 5) :: rest)) :=
  va_put (q0 := 5) (k := 7) (ty := .int) hC.1 hC.2.1 hC.2.2.2.2 in_Ma t_Ma t_Ma_ok n_Ma hC.2.2.2.1 hB.2.1 hB.1 hB.2.2.1 hB.2.2.2.1 rfl rfl (by decide) (hC.2.2.2.2 _ hl) (fun _ h => h) rfl (by decide +kernel) rfl rfl (Nat.le_of_ble_eq_true rfl) hdg (fun H1 locs1 hP hD hS => kk H1 locs1 ⟨hP, hB.2.1, hD, hS, hB.2.2.2.2⟩)
theorem gg_5_8 (hC : CallFix p m c cc nL s args gtb own) (hB : gB s0 s D cI cL ad G O H locs) {index : Nat} {x : Int32} (hx : G 5 8 = x) (hl : Cond.fieldLink own index "BackSteps$Machine" "placeBefore" "I" ∈ gtb) (hdg : decode cc pc = .ok (.getfield index, 3)) (kk : W p l e R s m args below meth c H locs cells slots Q  (F0 m (pc + 3) ls (.int x :: rest))) : W p l e R s m args below meth c H locs cells slots Q  (F0 m pc ls (.ref (ad 5) :: rest)) := by
  subst hx
  exact va_get (q0 := 5) (k := 8) hC.1 hC.2.1 hC.2.2.2.2 in_Ma hC.2.2.2.1 hB.2.1 hB.1 rfl rfl (by decide) (hC.2.2.2.2 _ hl) (fun _ h => h) rfl hdg kk
theorem gp_5_8 (hC : CallFix p m c cc nL s args gtb own) (hB : gB s0 s D cI cL ad G O H locs) {index : Nat} {v : Int32} (hl : Cond.fieldLink own index "BackSteps$Machine" "placeBefore" "I" ∈ gtb) (hdg : decode cc pc = .ok (.putfield index, 3)) (kk : ∀ (H1 : Heap) (locs1 : List Loc), gB s0 s D cI cL ad (g_up G 5 8 v) O H1 locs1 → W p l e R s m args below meth c H1 locs1 cells slots Q  (F0 m (pc + 3) ls rest)) : W p l e R s m args below meth c H locs cells slots Q  (F0 m pc ls (.int v :: .ref (ad 5) :: rest)) :=
  va_put (q0 := 5) (k := 8) (ty := .int) hC.1 hC.2.1 hC.2.2.2.2 in_Ma t_Ma t_Ma_ok n_Ma hC.2.2.2.1 hB.2.1 hB.1 hB.2.2.1 hB.2.2.2.1 rfl rfl (by decide) (hC.2.2.2.2 _ hl) (fun _ h => h) rfl (by decide +kernel) rfl rfl (Nat.le_of_ble_eq_true rfl) hdg (fun H1 locs1 hP hD hS => kk H1 locs1 ⟨hP, hB.2.1, hD, hS, hB.2.2.2.2⟩)
theorem gg_5_9 (hC : CallFix p m c cc nL s args gtb own) (hB : gB s0 s D cI cL ad G O H locs) {index : Nat} {x : Int32} (hx : G 5 9 = x) (hl : Cond.fieldLink own index "BackSteps$Machine" "takenBefore" "I" ∈ gtb) (hdg : decode cc pc = .ok (.getfield index, 3)) (kk : W p l e R s m args below meth c H locs cells slots Q  (F0 m (pc + 3) ls (.int x :: rest))) : W p l e R s m args below meth c H locs cells slots Q  (F0 m pc ls (.ref (ad 5) :: rest)) := by
  subst hx
  exact va_get (q0 := 5) (k := 9) hC.1 hC.2.1 hC.2.2.2.2 in_Ma hC.2.2.2.1 hB.2.1 hB.1 rfl rfl (by decide) (hC.2.2.2.2 _ hl) (fun _ h => h) rfl hdg kk
theorem gp_5_9 (hC : CallFix p m c cc nL s args gtb own) (hB : gB s0 s D cI cL ad G O H locs) {index : Nat} {v : Int32} (hl : Cond.fieldLink own index "BackSteps$Machine" "takenBefore" "I" ∈ gtb) (hdg : decode cc pc = .ok (.putfield index, 3)) (kk : ∀ (H1 : Heap) (locs1 : List Loc), gB s0 s D cI cL ad (g_up G 5 9 v) O H1 locs1 → W p l e R s m args below meth c H1 locs1 cells slots Q  (F0 m (pc + 3) ls rest)) : W p l e R s m args below meth c H locs cells slots Q  (F0 m pc ls (.int v :: .ref (ad 5) :: rest)) :=
  va_put (q0 := 5) (k := 9) (ty := .int) hC.1 hC.2.1 hC.2.2.2.2 in_Ma t_Ma t_Ma_ok n_Ma hC.2.2.2.1 hB.2.1 hB.1 hB.2.2.1 hB.2.2.2.1 rfl rfl (by decide) (hC.2.2.2.2 _ hl) (fun _ h => h) rfl (by decide +kernel) rfl rfl (Nat.le_of_ble_eq_true rfl) hdg (fun H1 locs1 hP hD hS => kk H1 locs1 ⟨hP, hB.2.1, hD, hS, hB.2.2.2.2⟩)
theorem gg_5_10 (hC : CallFix p m c cc nL s args gtb own) (hB : gB s0 s D cI cL ad G O H locs) {index : Nat} {x : Int32} (hx : G 5 10 = x) (hl : Cond.fieldLink own index "BackSteps$Machine" "outputsBefore" "I" ∈ gtb) (hdg : decode cc pc = .ok (.getfield index, 3)) (kk : W p l e R s m args below meth c H locs cells slots Q  (F0 m (pc + 3) ls (.int x :: rest))) : W p l e R s m args below meth c H locs cells slots Q  (F0 m pc ls (.ref (ad 5) :: rest)) := by
  subst hx
  exact va_get (q0 := 5) (k := 10) hC.1 hC.2.1 hC.2.2.2.2 in_Ma hC.2.2.2.1 hB.2.1 hB.1 rfl rfl (by decide) (hC.2.2.2.2 _ hl) (fun _ h => h) rfl hdg kk
theorem gp_5_10 (hC : CallFix p m c cc nL s args gtb own) (hB : gB s0 s D cI cL ad G O H locs) {index : Nat} {v : Int32} (hl : Cond.fieldLink own index "BackSteps$Machine" "outputsBefore" "I" ∈ gtb) (hdg : decode cc pc = .ok (.putfield index, 3)) (kk : ∀ (H1 : Heap) (locs1 : List Loc), gB s0 s D cI cL ad (g_up G 5 10 v) O H1 locs1 → W p l e R s m args below meth c H1 locs1 cells slots Q  (F0 m (pc + 3) ls rest)) : W p l e R s m args below meth c H locs cells slots Q  (F0 m pc ls (.int v :: .ref (ad 5) :: rest)) :=
  va_put (q0 := 5) (k := 10) (ty := .int) hC.1 hC.2.1 hC.2.2.2.2 in_Ma t_Ma t_Ma_ok n_Ma hC.2.2.2.1 hB.2.1 hB.1 hB.2.2.1 hB.2.2.2.1 rfl rfl (by decide) (hC.2.2.2.2 _ hl) (fun _ h => h) rfl (by decide +kernel) rfl rfl (Nat.le_of_ble_eq_true rfl) hdg (fun H1 locs1 hP hD hS => kk H1 locs1 ⟨hP, hB.2.1, hD, hS, hB.2.2.2.2⟩)
theorem gg_5_11 (hC : CallFix p m c cc nL s args gtb own) (hB : gB s0 s D cI cL ad G O H locs) {index : Nat} {x : Int32} (hx : G 5 11 = x) (hl : Cond.fieldLink own index "BackSteps$Machine" "sumBefore" "I" ∈ gtb) (hdg : decode cc pc = .ok (.getfield index, 3)) (kk : W p l e R s m args below meth c H locs cells slots Q  (F0 m (pc + 3) ls (.int x :: rest))) : W p l e R s m args below meth c H locs cells slots Q  (F0 m pc ls (.ref (ad 5) :: rest)) := by
  subst hx
  exact va_get (q0 := 5) (k := 11) hC.1 hC.2.1 hC.2.2.2.2 in_Ma hC.2.2.2.1 hB.2.1 hB.1 rfl rfl (by decide) (hC.2.2.2.2 _ hl) (fun _ h => h) rfl hdg kk
theorem gp_5_11 (hC : CallFix p m c cc nL s args gtb own) (hB : gB s0 s D cI cL ad G O H locs) {index : Nat} {v : Int32} (hl : Cond.fieldLink own index "BackSteps$Machine" "sumBefore" "I" ∈ gtb) (hdg : decode cc pc = .ok (.putfield index, 3)) (kk : ∀ (H1 : Heap) (locs1 : List Loc), gB s0 s D cI cL ad (g_up G 5 11 v) O H1 locs1 → W p l e R s m args below meth c H1 locs1 cells slots Q  (F0 m (pc + 3) ls rest)) : W p l e R s m args below meth c H locs cells slots Q  (F0 m pc ls (.int v :: .ref (ad 5) :: rest)) :=
  va_put (q0 := 5) (k := 11) (ty := .int) hC.1 hC.2.1 hC.2.2.2.2 in_Ma t_Ma t_Ma_ok n_Ma hC.2.2.2.1 hB.2.1 hB.1 hB.2.2.1 hB.2.2.2.1 rfl rfl (by decide) (hC.2.2.2.2 _ hl) (fun _ h => h) rfl (by decide +kernel) rfl rfl (Nat.le_of_ble_eq_true rfl) hdg (fun H1 locs1 hP hD hS => kk H1 locs1 ⟨hP, hB.2.1, hD, hS, hB.2.2.2.2⟩)
theorem ga_6 (hC : CallFix p m c cc nL s args gtb own) (hB : gB s0 s D cI cL ad G O H locs) {i x : Int32} (hin : vp_in i 264) (hx : G 6 i.toNatClampNeg = x) (hdg : decode cc pc = .ok (.iaload, 1)) (kk : W p l e R s m args below meth c H locs cells slots Q  (F0 m (pc + 1) ls (.int x :: rest))) : W p l e R s m args below meth c H locs cells slots Q  (F0 m pc ls (.int i :: .ref (ad 6) :: rest)) := by
  subst hx
  exact va_iald (q0 := 6) (t0 := 0) hC.1 hC.2.1 hB.2.1 hB.1 rfl rfl hin hdg kk
theorem gs_6 (hC : CallFix p m c cc nL s args gtb own) (hB : gB s0 s D cI cL ad G O H locs) {i x : Int32} (hin : vp_in i 264) (hdg : decode cc pc = .ok (.iastore, 1)) (kk : ∀ (H1 : Heap) (locs1 : List Loc), gB s0 s D cI cL ad (g_up G 6 i.toNatClampNeg x) O H1 locs1 → W p l e R s m args below meth c H1 locs1 cells slots Q  (F0 m (pc + 1) ls rest)) : W p l e R s m args below meth c H locs cells slots Q  (F0 m pc ls (.int x :: .int i :: .ref (ad 6) :: rest)) :=
  va_iast (q0 := 6) (t0 := 0) hC.1 hC.2.1 hB.2.1 hB.1 hB.2.2.1 hB.2.2.2.1 rfl rfl hin hdg (fun H1 locs1 hP hD hS => kk H1 locs1 ⟨hP, hB.2.1, hD, hS, hB.2.2.2.2⟩)
theorem gg_7_0 (hC : CallFix p m c cc nL s args gtb own) (hB : gB s0 s D cI cL ad G O H locs) {index : Nat} {x : Int32} (hx : G 7 0 = x) (hl : Cond.fieldLink own index "BackSteps$Rows" "room" "I" ∈ gtb) (hdg : decode cc pc = .ok (.getfield index, 3)) (kk : W p l e R s m args below meth c H locs cells slots Q  (F0 m (pc + 3) ls (.int x :: rest))) : W p l e R s m args below meth c H locs cells slots Q  (F0 m pc ls (.ref (ad 7) :: rest)) := by
  subst hx
  exact va_get (q0 := 7) (k := 0) hC.1 hC.2.1 hC.2.2.2.2 in_Ro hC.2.2.2.1 hB.2.1 hB.1 rfl rfl (by decide) (hC.2.2.2.2 _ hl) (fun _ h => h) rfl hdg kk
theorem gg_7_1 (hC : CallFix p m c cc nL s args gtb own) (hB : gB s0 s D cI cL ad G O H locs) {index : Nat} {x : Int32} (hx : G 7 1 = x) (hl : Cond.fieldLink own index "BackSteps$Rows" "now" "I" ∈ gtb) (hdg : decode cc pc = .ok (.getfield index, 3)) (kk : W p l e R s m args below meth c H locs cells slots Q  (F0 m (pc + 3) ls (.int x :: rest))) : W p l e R s m args below meth c H locs cells slots Q  (F0 m pc ls (.ref (ad 7) :: rest)) := by
  subst hx
  exact va_get (q0 := 7) (k := 1) hC.1 hC.2.1 hC.2.2.2.2 in_Ro hC.2.2.2.1 hB.2.1 hB.1 rfl rfl (by decide) (hC.2.2.2.2 _ hl) (fun _ h => h) rfl hdg kk
theorem gp_7_1 (hC : CallFix p m c cc nL s args gtb own) (hB : gB s0 s D cI cL ad G O H locs) {index : Nat} {v : Int32} (hl : Cond.fieldLink own index "BackSteps$Rows" "now" "I" ∈ gtb) (hdg : decode cc pc = .ok (.putfield index, 3)) (kk : ∀ (H1 : Heap) (locs1 : List Loc), gB s0 s D cI cL ad (g_up G 7 1 v) O H1 locs1 → W p l e R s m args below meth c H1 locs1 cells slots Q  (F0 m (pc + 3) ls rest)) : W p l e R s m args below meth c H locs cells slots Q  (F0 m pc ls (.int v :: .ref (ad 7) :: rest)) :=
  va_put (q0 := 7) (k := 1) (ty := .int) hC.1 hC.2.1 hC.2.2.2.2 in_Ro t_Ro t_Ro_ok n_Ro hC.2.2.2.1 hB.2.1 hB.1 hB.2.2.1 hB.2.2.2.1 rfl rfl (by decide) (hC.2.2.2.2 _ hl) (fun _ h => h) rfl (by decide +kernel) rfl rfl (Nat.le_of_ble_eq_true rfl) hdg (fun H1 locs1 hP hD hS => kk H1 locs1 ⟨hP, hB.2.1, hD, hS, hB.2.2.2.2⟩)
theorem gg_7_2 (hC : CallFix p m c cc nL s args gtb own) (hB : gB s0 s D cI cL ad G O H locs) {index : Nat} {x : Int32} (hx : G 7 2 = x) (hl : Cond.fieldLink own index "BackSteps$Rows" "oldest" "I" ∈ gtb) (hdg : decode cc pc = .ok (.getfield index, 3)) (kk : W p l e R s m args below meth c H locs cells slots Q  (F0 m (pc + 3) ls (.int x :: rest))) : W p l e R s m args below meth c H locs cells slots Q  (F0 m pc ls (.ref (ad 7) :: rest)) := by
  subst hx
  exact va_get (q0 := 7) (k := 2) hC.1 hC.2.1 hC.2.2.2.2 in_Ro hC.2.2.2.1 hB.2.1 hB.1 rfl rfl (by decide) (hC.2.2.2.2 _ hl) (fun _ h => h) rfl hdg kk
theorem gp_7_2 (hC : CallFix p m c cc nL s args gtb own) (hB : gB s0 s D cI cL ad G O H locs) {index : Nat} {v : Int32} (hl : Cond.fieldLink own index "BackSteps$Rows" "oldest" "I" ∈ gtb) (hdg : decode cc pc = .ok (.putfield index, 3)) (kk : ∀ (H1 : Heap) (locs1 : List Loc), gB s0 s D cI cL ad (g_up G 7 2 v) O H1 locs1 → W p l e R s m args below meth c H1 locs1 cells slots Q  (F0 m (pc + 3) ls rest)) : W p l e R s m args below meth c H locs cells slots Q  (F0 m pc ls (.int v :: .ref (ad 7) :: rest)) :=
  va_put (q0 := 7) (k := 2) (ty := .int) hC.1 hC.2.1 hC.2.2.2.2 in_Ro t_Ro t_Ro_ok n_Ro hC.2.2.2.1 hB.2.1 hB.1 hB.2.2.1 hB.2.2.2.1 rfl rfl (by decide) (hC.2.2.2.2 _ hl) (fun _ h => h) rfl (by decide +kernel) rfl rfl (Nat.le_of_ble_eq_true rfl) hdg (fun H1 locs1 hP hD hS => kk H1 locs1 ⟨hP, hB.2.1, hD, hS, hB.2.2.2.2⟩)
theorem gg_7_3 (hC : CallFix p m c cc nL s args gtb own) (hB : gB s0 s D cI cL ad G O H locs) {index : Nat} {x : Int32} (hx : G 7 3 = x) (hl : Cond.fieldLink own index "BackSteps$Rows" "spent" "I" ∈ gtb) (hdg : decode cc pc = .ok (.getfield index, 3)) (kk : W p l e R s m args below meth c H locs cells slots Q  (F0 m (pc + 3) ls (.int x :: rest))) : W p l e R s m args below meth c H locs cells slots Q  (F0 m pc ls (.ref (ad 7) :: rest)) := by
  subst hx
  exact va_get (q0 := 7) (k := 3) hC.1 hC.2.1 hC.2.2.2.2 in_Ro hC.2.2.2.1 hB.2.1 hB.1 rfl rfl (by decide) (hC.2.2.2.2 _ hl) (fun _ h => h) rfl hdg kk
theorem gp_7_3 (hC : CallFix p m c cc nL s args gtb own) (hB : gB s0 s D cI cL ad G O H locs) {index : Nat} {v : Int32} (hl : Cond.fieldLink own index "BackSteps$Rows" "spent" "I" ∈ gtb) (hdg : decode cc pc = .ok (.putfield index, 3)) (kk : ∀ (H1 : Heap) (locs1 : List Loc), gB s0 s D cI cL ad (g_up G 7 3 v) O H1 locs1 → W p l e R s m args below meth c H1 locs1 cells slots Q  (F0 m (pc + 3) ls rest)) : W p l e R s m args below meth c H locs cells slots Q  (F0 m pc ls (.int v :: .ref (ad 7) :: rest)) :=
  va_put (q0 := 7) (k := 3) (ty := .int) hC.1 hC.2.1 hC.2.2.2.2 in_Ro t_Ro t_Ro_ok n_Ro hC.2.2.2.1 hB.2.1 hB.1 hB.2.2.1 hB.2.2.2.1 rfl rfl (by decide) (hC.2.2.2.2 _ hl) (fun _ h => h) rfl (by decide +kernel) rfl rfl (Nat.le_of_ble_eq_true rfl) hdg (fun H1 locs1 hP hD hS => kk H1 locs1 ⟨hP, hB.2.1, hD, hS, hB.2.2.2.2⟩)
theorem gg_7_4 (hC : CallFix p m c cc nL s args gtb own) (hB : gB s0 s D cI cL ad G O H locs) {index : Nat} {x : Int32} (hx : G 7 4 = x) (hl : Cond.fieldLink own index "BackSteps$Rows" "gone" "I" ∈ gtb) (hdg : decode cc pc = .ok (.getfield index, 3)) (kk : W p l e R s m args below meth c H locs cells slots Q  (F0 m (pc + 3) ls (.int x :: rest))) : W p l e R s m args below meth c H locs cells slots Q  (F0 m pc ls (.ref (ad 7) :: rest)) := by
  subst hx
  exact va_get (q0 := 7) (k := 4) hC.1 hC.2.1 hC.2.2.2.2 in_Ro hC.2.2.2.1 hB.2.1 hB.1 rfl rfl (by decide) (hC.2.2.2.2 _ hl) (fun _ h => h) rfl hdg kk
theorem gp_7_4 (hC : CallFix p m c cc nL s args gtb own) (hB : gB s0 s D cI cL ad G O H locs) {index : Nat} {v : Int32} (hl : Cond.fieldLink own index "BackSteps$Rows" "gone" "I" ∈ gtb) (hdg : decode cc pc = .ok (.putfield index, 3)) (kk : ∀ (H1 : Heap) (locs1 : List Loc), gB s0 s D cI cL ad (g_up G 7 4 v) O H1 locs1 → W p l e R s m args below meth c H1 locs1 cells slots Q  (F0 m (pc + 3) ls rest)) : W p l e R s m args below meth c H locs cells slots Q  (F0 m pc ls (.int v :: .ref (ad 7) :: rest)) :=
  va_put (q0 := 7) (k := 4) (ty := .int) hC.1 hC.2.1 hC.2.2.2.2 in_Ro t_Ro t_Ro_ok n_Ro hC.2.2.2.1 hB.2.1 hB.1 hB.2.2.1 hB.2.2.2.1 rfl rfl (by decide) (hC.2.2.2.2 _ hl) (fun _ h => h) rfl (by decide +kernel) rfl rfl (Nat.le_of_ble_eq_true rfl) hdg (fun H1 locs1 hP hD hS => kk H1 locs1 ⟨hP, hB.2.1, hD, hS, hB.2.2.2.2⟩)
theorem gr_7_5 (hC : CallFix p m c cc nL s args gtb own) (hB : gB s0 s D cI cL ad G O H locs) {index : Nat} (hl : Cond.fieldLink own index "BackSteps$Rows" "costs" "[I" ∈ gtb) (hdg : decode cc pc = .ok (.getfield index, 3)) (kk : W p l e R s m args below meth c H locs cells slots Q  (F0 m (pc + 3) ls (.ref (ad 8) :: rest))) : W p l e R s m args below meth c H locs cells slots Q  (F0 m pc ls (.ref (ad 7) :: rest)) :=
  va_get (q0 := 7) (k := 5) hC.1 hC.2.1 hC.2.2.2.2 in_Ro hC.2.2.2.1 hB.2.1 hB.1 rfl rfl (by decide) (hC.2.2.2.2 _ hl) (fun _ h => h) rfl hdg kk
theorem gr_7_6 (hC : CallFix p m c cc nL s args gtb own) (hB : gB s0 s D cI cL ad G O H locs) {index : Nat} (hl : Cond.fieldLink own index "BackSteps$Rows" "written" "[I" ∈ gtb) (hdg : decode cc pc = .ok (.getfield index, 3)) (kk : W p l e R s m args below meth c H locs cells slots Q  (F0 m (pc + 3) ls (.ref (ad 9) :: rest))) : W p l e R s m args below meth c H locs cells slots Q  (F0 m pc ls (.ref (ad 7) :: rest)) :=
  va_get (q0 := 7) (k := 6) hC.1 hC.2.1 hC.2.2.2.2 in_Ro hC.2.2.2.1 hB.2.1 hB.1 rfl rfl (by decide) (hC.2.2.2.2 _ hl) (fun _ h => h) rfl hdg kk
theorem gr_7_7 (hC : CallFix p m c cc nL s args gtb own) (hB : gB s0 s D cI cL ad G O H locs) {index : Nat} (hl : Cond.fieldLink own index "BackSteps$Rows" "numbersBefore" "[I" ∈ gtb) (hdg : decode cc pc = .ok (.getfield index, 3)) (kk : W p l e R s m args below meth c H locs cells slots Q  (F0 m (pc + 3) ls (.ref (ad 10) :: rest))) : W p l e R s m args below meth c H locs cells slots Q  (F0 m pc ls (.ref (ad 7) :: rest)) :=
  va_get (q0 := 7) (k := 7) hC.1 hC.2.1 hC.2.2.2.2 in_Ro hC.2.2.2.1 hB.2.1 hB.1 rfl rfl (by decide) (hC.2.2.2.2 _ hl) (fun _ h => h) rfl hdg kk
theorem gr_7_8 (hC : CallFix p m c cc nL s args gtb own) (hB : gB s0 s D cI cL ad G O H locs) {index : Nat} (hl : Cond.fieldLink own index "BackSteps$Rows" "numbersBehind" "[I" ∈ gtb) (hdg : decode cc pc = .ok (.getfield index, 3)) (kk : W p l e R s m args below meth c H locs cells slots Q  (F0 m (pc + 3) ls (.ref (ad 11) :: rest))) : W p l e R s m args below meth c H locs cells slots Q  (F0 m pc ls (.ref (ad 7) :: rest)) :=
  va_get (q0 := 7) (k := 8) hC.1 hC.2.1 hC.2.2.2.2 in_Ro hC.2.2.2.1 hB.2.1 hB.1 rfl rfl (by decide) (hC.2.2.2.2 _ hl) (fun _ h => h) rfl hdg kk
theorem gr_7_9 (hC : CallFix p m c cc nL s args gtb own) (hB : gB s0 s D cI cL ad G O H locs) {index : Nat} (hl : Cond.fieldLink own index "BackSteps$Rows" "places" "[I" ∈ gtb) (hdg : decode cc pc = .ok (.getfield index, 3)) (kk : W p l e R s m args below meth c H locs cells slots Q  (F0 m (pc + 3) ls (.ref (ad 12) :: rest))) : W p l e R s m args below meth c H locs cells slots Q  (F0 m pc ls (.ref (ad 7) :: rest)) :=
  va_get (q0 := 7) (k := 9) hC.1 hC.2.1 hC.2.2.2.2 in_Ro hC.2.2.2.1 hB.2.1 hB.1 rfl rfl (by decide) (hC.2.2.2.2 _ hl) (fun _ h => h) rfl hdg kk
theorem gr_7_10 (hC : CallFix p m c cc nL s args gtb own) (hB : gB s0 s D cI cL ad G O H locs) {index : Nat} (hl : Cond.fieldLink own index "BackSteps$Rows" "takens" "[I" ∈ gtb) (hdg : decode cc pc = .ok (.getfield index, 3)) (kk : W p l e R s m args below meth c H locs cells slots Q  (F0 m (pc + 3) ls (.ref (ad 13) :: rest))) : W p l e R s m args below meth c H locs cells slots Q  (F0 m pc ls (.ref (ad 7) :: rest)) :=
  va_get (q0 := 7) (k := 10) hC.1 hC.2.1 hC.2.2.2.2 in_Ro hC.2.2.2.1 hB.2.1 hB.1 rfl rfl (by decide) (hC.2.2.2.2 _ hl) (fun _ h => h) rfl hdg kk
theorem gr_7_11 (hC : CallFix p m c cc nL s args gtb own) (hB : gB s0 s D cI cL ad G O H locs) {index : Nat} (hl : Cond.fieldLink own index "BackSteps$Rows" "outputs" "[I" ∈ gtb) (hdg : decode cc pc = .ok (.getfield index, 3)) (kk : W p l e R s m args below meth c H locs cells slots Q  (F0 m (pc + 3) ls (.ref (ad 14) :: rest))) : W p l e R s m args below meth c H locs cells slots Q  (F0 m pc ls (.ref (ad 7) :: rest)) :=
  va_get (q0 := 7) (k := 11) hC.1 hC.2.1 hC.2.2.2.2 in_Ro hC.2.2.2.1 hB.2.1 hB.1 rfl rfl (by decide) (hC.2.2.2.2 _ hl) (fun _ h => h) rfl hdg kk
theorem gr_7_12 (hC : CallFix p m c cc nL s args gtb own) (hB : gB s0 s D cI cL ad G O H locs) {index : Nat} (hl : Cond.fieldLink own index "BackSteps$Rows" "sums" "[I" ∈ gtb) (hdg : decode cc pc = .ok (.getfield index, 3)) (kk : W p l e R s m args below meth c H locs cells slots Q  (F0 m (pc + 3) ls (.ref (ad 15) :: rest))) : W p l e R s m args below meth c H locs cells slots Q  (F0 m pc ls (.ref (ad 7) :: rest)) :=
  va_get (q0 := 7) (k := 12) hC.1 hC.2.1 hC.2.2.2.2 in_Ro hC.2.2.2.1 hB.2.1 hB.1 rfl rfl (by decide) (hC.2.2.2.2 _ hl) (fun _ h => h) rfl hdg kk
theorem ga_8 (hC : CallFix p m c cc nL s args gtb own) (hB : gB s0 s D cI cL ad G O H locs) {i x : Int32} (hin : vp_in i 1024) (hx : G 8 i.toNatClampNeg = x) (hdg : decode cc pc = .ok (.iaload, 1)) (kk : W p l e R s m args below meth c H locs cells slots Q  (F0 m (pc + 1) ls (.int x :: rest))) : W p l e R s m args below meth c H locs cells slots Q  (F0 m pc ls (.int i :: .ref (ad 8) :: rest)) := by
  subst hx
  exact va_iald (q0 := 8) (t0 := 0) hC.1 hC.2.1 hB.2.1 hB.1 rfl rfl hin hdg kk
theorem gs_8 (hC : CallFix p m c cc nL s args gtb own) (hB : gB s0 s D cI cL ad G O H locs) {i x : Int32} (hin : vp_in i 1024) (hdg : decode cc pc = .ok (.iastore, 1)) (kk : ∀ (H1 : Heap) (locs1 : List Loc), gB s0 s D cI cL ad (g_up G 8 i.toNatClampNeg x) O H1 locs1 → W p l e R s m args below meth c H1 locs1 cells slots Q  (F0 m (pc + 1) ls rest)) : W p l e R s m args below meth c H locs cells slots Q  (F0 m pc ls (.int x :: .int i :: .ref (ad 8) :: rest)) :=
  va_iast (q0 := 8) (t0 := 0) hC.1 hC.2.1 hB.2.1 hB.1 hB.2.2.1 hB.2.2.2.1 rfl rfl hin hdg (fun H1 locs1 hP hD hS => kk H1 locs1 ⟨hP, hB.2.1, hD, hS, hB.2.2.2.2⟩)
theorem ga_9 (hC : CallFix p m c cc nL s args gtb own) (hB : gB s0 s D cI cL ad G O H locs) {i x : Int32} (hin : vp_in i 1024) (hx : G 9 i.toNatClampNeg = x) (hdg : decode cc pc = .ok (.iaload, 1)) (kk : W p l e R s m args below meth c H locs cells slots Q  (F0 m (pc + 1) ls (.int x :: rest))) : W p l e R s m args below meth c H locs cells slots Q  (F0 m pc ls (.int i :: .ref (ad 9) :: rest)) := by
  subst hx
  exact va_iald (q0 := 9) (t0 := 0) hC.1 hC.2.1 hB.2.1 hB.1 rfl rfl hin hdg kk
theorem gs_9 (hC : CallFix p m c cc nL s args gtb own) (hB : gB s0 s D cI cL ad G O H locs) {i x : Int32} (hin : vp_in i 1024) (hdg : decode cc pc = .ok (.iastore, 1)) (kk : ∀ (H1 : Heap) (locs1 : List Loc), gB s0 s D cI cL ad (g_up G 9 i.toNatClampNeg x) O H1 locs1 → W p l e R s m args below meth c H1 locs1 cells slots Q  (F0 m (pc + 1) ls rest)) : W p l e R s m args below meth c H locs cells slots Q  (F0 m pc ls (.int x :: .int i :: .ref (ad 9) :: rest)) :=
  va_iast (q0 := 9) (t0 := 0) hC.1 hC.2.1 hB.2.1 hB.1 hB.2.2.1 hB.2.2.2.1 rfl rfl hin hdg (fun H1 locs1 hP hD hS => kk H1 locs1 ⟨hP, hB.2.1, hD, hS, hB.2.2.2.2⟩)
theorem ga_10 (hC : CallFix p m c cc nL s args gtb own) (hB : gB s0 s D cI cL ad G O H locs) {i x : Int32} (hin : vp_in i 1024) (hx : G 10 i.toNatClampNeg = x) (hdg : decode cc pc = .ok (.iaload, 1)) (kk : W p l e R s m args below meth c H locs cells slots Q  (F0 m (pc + 1) ls (.int x :: rest))) : W p l e R s m args below meth c H locs cells slots Q  (F0 m pc ls (.int i :: .ref (ad 10) :: rest)) := by
  subst hx
  exact va_iald (q0 := 10) (t0 := 0) hC.1 hC.2.1 hB.2.1 hB.1 rfl rfl hin hdg kk
theorem gs_10 (hC : CallFix p m c cc nL s args gtb own) (hB : gB s0 s D cI cL ad G O H locs) {i x : Int32} (hin : vp_in i 1024) (hdg : decode cc pc = .ok (.iastore, 1)) (kk : ∀ (H1 : Heap) (locs1 : List Loc), gB s0 s D cI cL ad (g_up G 10 i.toNatClampNeg x) O H1 locs1 → W p l e R s m args below meth c H1 locs1 cells slots Q  (F0 m (pc + 1) ls rest)) : W p l e R s m args below meth c H locs cells slots Q  (F0 m pc ls (.int x :: .int i :: .ref (ad 10) :: rest)) :=
  va_iast (q0 := 10) (t0 := 0) hC.1 hC.2.1 hB.2.1 hB.1 hB.2.2.1 hB.2.2.2.1 rfl rfl hin hdg (fun H1 locs1 hP hD hS => kk H1 locs1 ⟨hP, hB.2.1, hD, hS, hB.2.2.2.2⟩)
theorem ga_11 (hC : CallFix p m c cc nL s args gtb own) (hB : gB s0 s D cI cL ad G O H locs) {i x : Int32} (hin : vp_in i 1024) (hx : G 11 i.toNatClampNeg = x) (hdg : decode cc pc = .ok (.iaload, 1)) (kk : W p l e R s m args below meth c H locs cells slots Q  (F0 m (pc + 1) ls (.int x :: rest))) : W p l e R s m args below meth c H locs cells slots Q  (F0 m pc ls (.int i :: .ref (ad 11) :: rest)) := by
  subst hx
  exact va_iald (q0 := 11) (t0 := 0) hC.1 hC.2.1 hB.2.1 hB.1 rfl rfl hin hdg kk
theorem gs_11 (hC : CallFix p m c cc nL s args gtb own) (hB : gB s0 s D cI cL ad G O H locs) {i x : Int32} (hin : vp_in i 1024) (hdg : decode cc pc = .ok (.iastore, 1)) (kk : ∀ (H1 : Heap) (locs1 : List Loc), gB s0 s D cI cL ad (g_up G 11 i.toNatClampNeg x) O H1 locs1 → W p l e R s m args below meth c H1 locs1 cells slots Q  (F0 m (pc + 1) ls rest)) : W p l e R s m args below meth c H locs cells slots Q  (F0 m pc ls (.int x :: .int i :: .ref (ad 11) :: rest)) :=
  va_iast (q0 := 11) (t0 := 0) hC.1 hC.2.1 hB.2.1 hB.1 hB.2.2.1 hB.2.2.2.1 rfl rfl hin hdg (fun H1 locs1 hP hD hS => kk H1 locs1 ⟨hP, hB.2.1, hD, hS, hB.2.2.2.2⟩)
theorem ga_12 (hC : CallFix p m c cc nL s args gtb own) (hB : gB s0 s D cI cL ad G O H locs) {i x : Int32} (hin : vp_in i 1024) (hx : G 12 i.toNatClampNeg = x) (hdg : decode cc pc = .ok (.iaload, 1)) (kk : W p l e R s m args below meth c H locs cells slots Q  (F0 m (pc + 1) ls (.int x :: rest))) : W p l e R s m args below meth c H locs cells slots Q  (F0 m pc ls (.int i :: .ref (ad 12) :: rest)) := by
  subst hx
  exact va_iald (q0 := 12) (t0 := 0) hC.1 hC.2.1 hB.2.1 hB.1 rfl rfl hin hdg kk
theorem gs_12 (hC : CallFix p m c cc nL s args gtb own) (hB : gB s0 s D cI cL ad G O H locs) {i x : Int32} (hin : vp_in i 1024) (hdg : decode cc pc = .ok (.iastore, 1)) (kk : ∀ (H1 : Heap) (locs1 : List Loc), gB s0 s D cI cL ad (g_up G 12 i.toNatClampNeg x) O H1 locs1 → W p l e R s m args below meth c H1 locs1 cells slots Q  (F0 m (pc + 1) ls rest)) : W p l e R s m args below meth c H locs cells slots Q  (F0 m pc ls (.int x :: .int i :: .ref (ad 12) :: rest)) :=
  va_iast (q0 := 12) (t0 := 0) hC.1 hC.2.1 hB.2.1 hB.1 hB.2.2.1 hB.2.2.2.1 rfl rfl hin hdg (fun H1 locs1 hP hD hS => kk H1 locs1 ⟨hP, hB.2.1, hD, hS, hB.2.2.2.2⟩)
theorem ga_13 (hC : CallFix p m c cc nL s args gtb own) (hB : gB s0 s D cI cL ad G O H locs) {i x : Int32} (hin : vp_in i 1024) (hx : G 13 i.toNatClampNeg = x) (hdg : decode cc pc = .ok (.iaload, 1)) (kk : W p l e R s m args below meth c H locs cells slots Q  (F0 m (pc + 1) ls (.int x :: rest))) : W p l e R s m args below meth c H locs cells slots Q  (F0 m pc ls (.int i :: .ref (ad 13) :: rest)) := by
  subst hx
  exact va_iald (q0 := 13) (t0 := 0) hC.1 hC.2.1 hB.2.1 hB.1 rfl rfl hin hdg kk
theorem gs_13 (hC : CallFix p m c cc nL s args gtb own) (hB : gB s0 s D cI cL ad G O H locs) {i x : Int32} (hin : vp_in i 1024) (hdg : decode cc pc = .ok (.iastore, 1)) (kk : ∀ (H1 : Heap) (locs1 : List Loc), gB s0 s D cI cL ad (g_up G 13 i.toNatClampNeg x) O H1 locs1 → W p l e R s m args below meth c H1 locs1 cells slots Q  (F0 m (pc + 1) ls rest)) : W p l e R s m args below meth c H locs cells slots Q  (F0 m pc ls (.int x :: .int i :: .ref (ad 13) :: rest)) :=
  va_iast (q0 := 13) (t0 := 0) hC.1 hC.2.1 hB.2.1 hB.1 hB.2.2.1 hB.2.2.2.1 rfl rfl hin hdg (fun H1 locs1 hP hD hS => kk H1 locs1 ⟨hP, hB.2.1, hD, hS, hB.2.2.2.2⟩)
theorem ga_14 (hC : CallFix p m c cc nL s args gtb own) (hB : gB s0 s D cI cL ad G O H locs) {i x : Int32} (hin : vp_in i 1024) (hx : G 14 i.toNatClampNeg = x) (hdg : decode cc pc = .ok (.iaload, 1)) (kk : W p l e R s m args below meth c H locs cells slots Q  (F0 m (pc + 1) ls (.int x :: rest))) : W p l e R s m args below meth c H locs cells slots Q  (F0 m pc ls (.int i :: .ref (ad 14) :: rest)) := by
  subst hx
  exact va_iald (q0 := 14) (t0 := 0) hC.1 hC.2.1 hB.2.1 hB.1 rfl rfl hin hdg kk
theorem gs_14 (hC : CallFix p m c cc nL s args gtb own) (hB : gB s0 s D cI cL ad G O H locs) {i x : Int32} (hin : vp_in i 1024) (hdg : decode cc pc = .ok (.iastore, 1)) (kk : ∀ (H1 : Heap) (locs1 : List Loc), gB s0 s D cI cL ad (g_up G 14 i.toNatClampNeg x) O H1 locs1 → W p l e R s m args below meth c H1 locs1 cells slots Q  (F0 m (pc + 1) ls rest)) : W p l e R s m args below meth c H locs cells slots Q  (F0 m pc ls (.int x :: .int i :: .ref (ad 14) :: rest)) :=
  va_iast (q0 := 14) (t0 := 0) hC.1 hC.2.1 hB.2.1 hB.1 hB.2.2.1 hB.2.2.2.1 rfl rfl hin hdg (fun H1 locs1 hP hD hS => kk H1 locs1 ⟨hP, hB.2.1, hD, hS, hB.2.2.2.2⟩)
theorem ga_15 (hC : CallFix p m c cc nL s args gtb own) (hB : gB s0 s D cI cL ad G O H locs) {i x : Int32} (hin : vp_in i 1024) (hx : G 15 i.toNatClampNeg = x) (hdg : decode cc pc = .ok (.iaload, 1)) (kk : W p l e R s m args below meth c H locs cells slots Q  (F0 m (pc + 1) ls (.int x :: rest))) : W p l e R s m args below meth c H locs cells slots Q  (F0 m pc ls (.int i :: .ref (ad 15) :: rest)) := by
  subst hx
  exact va_iald (q0 := 15) (t0 := 0) hC.1 hC.2.1 hB.2.1 hB.1 rfl rfl hin hdg kk
theorem gs_15 (hC : CallFix p m c cc nL s args gtb own) (hB : gB s0 s D cI cL ad G O H locs) {i x : Int32} (hin : vp_in i 1024) (hdg : decode cc pc = .ok (.iastore, 1)) (kk : ∀ (H1 : Heap) (locs1 : List Loc), gB s0 s D cI cL ad (g_up G 15 i.toNatClampNeg x) O H1 locs1 → W p l e R s m args below meth c H1 locs1 cells slots Q  (F0 m (pc + 1) ls rest)) : W p l e R s m args below meth c H locs cells slots Q  (F0 m pc ls (.int x :: .int i :: .ref (ad 15) :: rest)) :=
  va_iast (q0 := 15) (t0 := 0) hC.1 hC.2.1 hB.2.1 hB.1 hB.2.2.1 hB.2.2.2.1 rfl rfl hin hdg (fun H1 locs1 hP hD hS => kk H1 locs1 ⟨hP, hB.2.1, hD, hS, hB.2.2.2.2⟩)
theorem gg_16_0 (hC : CallFix p m c cc nL s args gtb own) (hB : gB s0 s D cI cL ad G O H locs) {index : Nat} {x : Int32} (hx : G 16 0 = x) (hl : Cond.fieldLink own index "BackStepsModel" "thrown" "I" ∈ gtb) (hdg : decode cc pc = .ok (.getfield index, 3)) (kk : W p l e R s m args below meth c H locs cells slots Q  (F0 m (pc + 3) ls (.int x :: rest))) : W p l e R s m args below meth c H locs cells slots Q  (F0 m pc ls (.ref (ad 16) :: rest)) := by
  subst hx
  exact va_get (q0 := 16) (k := 0) hC.1 hC.2.1 hC.2.2.2.2 in_Mo hC.2.2.2.1 hB.2.1 hB.1 rfl rfl (by decide) (hC.2.2.2.2 _ hl) (fun _ h => h) rfl hdg kk
theorem gp_16_0 (hC : CallFix p m c cc nL s args gtb own) (hB : gB s0 s D cI cL ad G O H locs) {index : Nat} {v : Int32} (hl : Cond.fieldLink own index "BackStepsModel" "thrown" "I" ∈ gtb) (hdg : decode cc pc = .ok (.putfield index, 3)) (kk : ∀ (H1 : Heap) (locs1 : List Loc), gB s0 s D cI cL ad (g_up G 16 0 v) O H1 locs1 → W p l e R s m args below meth c H1 locs1 cells slots Q  (F0 m (pc + 3) ls rest)) : W p l e R s m args below meth c H locs cells slots Q  (F0 m pc ls (.int v :: .ref (ad 16) :: rest)) :=
  va_put (q0 := 16) (k := 0) (ty := .int) hC.1 hC.2.1 hC.2.2.2.2 in_Mo t_Mo t_Mo_ok n_Mo hC.2.2.2.1 hB.2.1 hB.1 hB.2.2.1 hB.2.2.2.1 rfl rfl (by decide) (hC.2.2.2.2 _ hl) (fun _ h => h) rfl (by decide +kernel) rfl rfl (Nat.le_of_ble_eq_true rfl) hdg (fun H1 locs1 hP hD hS => kk H1 locs1 ⟨hP, hB.2.1, hD, hS, hB.2.2.2.2⟩)
theorem gg_16_1 (hC : CallFix p m c cc nL s args gtb own) (hB : gB s0 s D cI cL ad G O H locs) {index : Nat} {x : Int32} (hx : G 16 1 = x) (hl : Cond.fieldLink own index "BackStepsModel" "room" "I" ∈ gtb) (hdg : decode cc pc = .ok (.getfield index, 3)) (kk : W p l e R s m args below meth c H locs cells slots Q  (F0 m (pc + 3) ls (.int x :: rest))) : W p l e R s m args below meth c H locs cells slots Q  (F0 m pc ls (.ref (ad 16) :: rest)) := by
  subst hx
  exact va_get (q0 := 16) (k := 1) hC.1 hC.2.1 hC.2.2.2.2 in_Mo hC.2.2.2.1 hB.2.1 hB.1 rfl rfl (by decide) (hC.2.2.2.2 _ hl) (fun _ h => h) rfl hdg kk
theorem gg_16_2 (hC : CallFix p m c cc nL s args gtb own) (hB : gB s0 s D cI cL ad G O H locs) {index : Nat} {x : Int32} (hx : G 16 2 = x) (hl : Cond.fieldLink own index "BackStepsModel" "every" "I" ∈ gtb) (hdg : decode cc pc = .ok (.getfield index, 3)) (kk : W p l e R s m args below meth c H locs cells slots Q  (F0 m (pc + 3) ls (.int x :: rest))) : W p l e R s m args below meth c H locs cells slots Q  (F0 m pc ls (.ref (ad 16) :: rest)) := by
  subst hx
  exact va_get (q0 := 16) (k := 2) hC.1 hC.2.1 hC.2.2.2.2 in_Mo hC.2.2.2.1 hB.2.1 hB.1 rfl rfl (by decide) (hC.2.2.2.2 _ hl) (fun _ h => h) rfl hdg kk
theorem gr_16_3 (hC : CallFix p m c cc nL s args gtb own) (hB : gB s0 s D cI cL ad G O H locs) {index : Nat} (hl : Cond.fieldLink own index "BackStepsModel" "program" "[I" ∈ gtb) (hdg : decode cc pc = .ok (.getfield index, 3)) (kk : W p l e R s m args below meth c H locs cells slots Q  (F0 m (pc + 3) ls (.ref (ad 17) :: rest))) : W p l e R s m args below meth c H locs cells slots Q  (F0 m pc ls (.ref (ad 16) :: rest)) :=
  va_get (q0 := 16) (k := 3) hC.1 hC.2.1 hC.2.2.2.2 in_Mo hC.2.2.2.1 hB.2.1 hB.1 rfl rfl (by decide) (hC.2.2.2.2 _ hl) (fun _ h => h) rfl hdg kk
theorem gg_16_4 (hC : CallFix p m c cc nL s args gtb own) (hB : gB s0 s D cI cL ad G O H locs) {index : Nat} {x : Int32} (hx : G 16 4 = x) (hl : Cond.fieldLink own index "BackStepsModel" "inputs" "I" ∈ gtb) (hdg : decode cc pc = .ok (.getfield index, 3)) (kk : W p l e R s m args below meth c H locs cells slots Q  (F0 m (pc + 3) ls (.int x :: rest))) : W p l e R s m args below meth c H locs cells slots Q  (F0 m pc ls (.ref (ad 16) :: rest)) := by
  subst hx
  exact va_get (q0 := 16) (k := 4) hC.1 hC.2.1 hC.2.2.2.2 in_Mo hC.2.2.2.1 hB.2.1 hB.1 rfl rfl (by decide) (hC.2.2.2.2 _ hl) (fun _ h => h) rfl hdg kk
theorem gp_16_4 (hC : CallFix p m c cc nL s args gtb own) (hB : gB s0 s D cI cL ad G O H locs) {index : Nat} {v : Int32} (hl : Cond.fieldLink own index "BackStepsModel" "inputs" "I" ∈ gtb) (hdg : decode cc pc = .ok (.putfield index, 3)) (kk : ∀ (H1 : Heap) (locs1 : List Loc), gB s0 s D cI cL ad (g_up G 16 4 v) O H1 locs1 → W p l e R s m args below meth c H1 locs1 cells slots Q  (F0 m (pc + 3) ls rest)) : W p l e R s m args below meth c H locs cells slots Q  (F0 m pc ls (.int v :: .ref (ad 16) :: rest)) :=
  va_put (q0 := 16) (k := 4) (ty := .int) hC.1 hC.2.1 hC.2.2.2.2 in_Mo t_Mo t_Mo_ok n_Mo hC.2.2.2.1 hB.2.1 hB.1 hB.2.2.1 hB.2.2.2.1 rfl rfl (by decide) (hC.2.2.2.2 _ hl) (fun _ h => h) rfl (by decide +kernel) rfl rfl (Nat.le_of_ble_eq_true rfl) hdg (fun H1 locs1 hP hD hS => kk H1 locs1 ⟨hP, hB.2.1, hD, hS, hB.2.2.2.2⟩)
theorem gr_16_5 (hC : CallFix p m c cc nL s args gtb own) (hB : gB s0 s D cI cL ad G O H locs) {index : Nat} (hl : Cond.fieldLink own index "BackStepsModel" "input" "[I" ∈ gtb) (hdg : decode cc pc = .ok (.getfield index, 3)) (kk : W p l e R s m args below meth c H locs cells slots Q  (F0 m (pc + 3) ls (.ref (ad 18) :: rest))) : W p l e R s m args below meth c H locs cells slots Q  (F0 m pc ls (.ref (ad 16) :: rest)) :=
  va_get (q0 := 16) (k := 5) hC.1 hC.2.1 hC.2.2.2.2 in_Mo hC.2.2.2.1 hB.2.1 hB.1 rfl rfl (by decide) (hC.2.2.2.2 _ hl) (fun _ h => h) rfl hdg kk
theorem gr_16_6 (hC : CallFix p m c cc nL s args gtb own) (hB : gB s0 s D cI cL ad G O H locs) {index : Nat} (hl : Cond.fieldLink own index "BackStepsModel" "now" "[I" ∈ gtb) (hdg : decode cc pc = .ok (.getfield index, 3)) (kk : W p l e R s m args below meth c H locs cells slots Q  (F0 m (pc + 3) ls (.ref (ad 19) :: rest))) : W p l e R s m args below meth c H locs cells slots Q  (F0 m pc ls (.ref (ad 16) :: rest)) :=
  va_get (q0 := 16) (k := 6) hC.1 hC.2.1 hC.2.2.2.2 in_Mo hC.2.2.2.1 hB.2.1 hB.1 rfl rfl (by decide) (hC.2.2.2.2 _ hl) (fun _ h => h) rfl hdg kk
theorem gr_16_7 (hC : CallFix p m c cc nL s args gtb own) (hB : gB s0 s D cI cL ad G O H locs) {index : Nat} (hl : Cond.fieldLink own index "BackStepsModel" "other" "[I" ∈ gtb) (hdg : decode cc pc = .ok (.getfield index, 3)) (kk : W p l e R s m args below meth c H locs cells slots Q  (F0 m (pc + 3) ls (.ref (ad 20) :: rest))) : W p l e R s m args below meth c H locs cells slots Q  (F0 m pc ls (.ref (ad 16) :: rest)) :=
  va_get (q0 := 16) (k := 7) hC.1 hC.2.1 hC.2.2.2.2 in_Mo hC.2.2.2.1 hB.2.1 hB.1 rfl rfl (by decide) (hC.2.2.2.2 _ hl) (fun _ h => h) rfl hdg kk
theorem gr_16_8 (hC : CallFix p m c cc nL s args gtb own) (hB : gB s0 s D cI cL ad G O H locs) {index : Nat} (hl : Cond.fieldLink own index "BackStepsModel" "states" "[I" ∈ gtb) (hdg : decode cc pc = .ok (.getfield index, 3)) (kk : W p l e R s m args below meth c H locs cells slots Q  (F0 m (pc + 3) ls (.ref (ad 21) :: rest))) : W p l e R s m args below meth c H locs cells slots Q  (F0 m pc ls (.ref (ad 16) :: rest)) :=
  va_get (q0 := 16) (k := 8) hC.1 hC.2.1 hC.2.2.2.2 in_Mo hC.2.2.2.1 hB.2.1 hB.1 rfl rfl (by decide) (hC.2.2.2.2 _ hl) (fun _ h => h) rfl hdg kk
theorem gr_16_9 (hC : CallFix p m c cc nL s args gtb own) (hB : gB s0 s D cI cL ad G O H locs) {index : Nat} (hl : Cond.fieldLink own index "BackStepsModel" "costs" "[I" ∈ gtb) (hdg : decode cc pc = .ok (.getfield index, 3)) (kk : W p l e R s m args below meth c H locs cells slots Q  (F0 m (pc + 3) ls (.ref (ad 22) :: rest))) : W p l e R s m args below meth c H locs cells slots Q  (F0 m pc ls (.ref (ad 16) :: rest)) :=
  va_get (q0 := 16) (k := 9) hC.1 hC.2.1 hC.2.2.2.2 in_Mo hC.2.2.2.1 hB.2.1 hB.1 rfl rfl (by decide) (hC.2.2.2.2 _ hl) (fun _ h => h) rfl hdg kk
theorem gr_16_10 (hC : CallFix p m c cc nL s args gtb own) (hB : gB s0 s D cI cL ad G O H locs) {index : Nat} (hl : Cond.fieldLink own index "BackStepsModel" "writes" "[I" ∈ gtb) (hdg : decode cc pc = .ok (.getfield index, 3)) (kk : W p l e R s m args below meth c H locs cells slots Q  (F0 m (pc + 3) ls (.ref (ad 23) :: rest))) : W p l e R s m args below meth c H locs cells slots Q  (F0 m pc ls (.ref (ad 16) :: rest)) :=
  va_get (q0 := 16) (k := 10) hC.1 hC.2.1 hC.2.2.2.2 in_Mo hC.2.2.2.1 hB.2.1 hB.1 rfl rfl (by decide) (hC.2.2.2.2 _ hl) (fun _ h => h) rfl hdg kk
theorem gg_16_11 (hC : CallFix p m c cc nL s args gtb own) (hB : gB s0 s D cI cL ad G O H locs) {index : Nat} {x : Int32} (hx : G 16 11 = x) (hl : Cond.fieldLink own index "BackStepsModel" "time" "I" ∈ gtb) (hdg : decode cc pc = .ok (.getfield index, 3)) (kk : W p l e R s m args below meth c H locs cells slots Q  (F0 m (pc + 3) ls (.int x :: rest))) : W p l e R s m args below meth c H locs cells slots Q  (F0 m pc ls (.ref (ad 16) :: rest)) := by
  subst hx
  exact va_get (q0 := 16) (k := 11) hC.1 hC.2.1 hC.2.2.2.2 in_Mo hC.2.2.2.1 hB.2.1 hB.1 rfl rfl (by decide) (hC.2.2.2.2 _ hl) (fun _ h => h) rfl hdg kk
theorem gp_16_11 (hC : CallFix p m c cc nL s args gtb own) (hB : gB s0 s D cI cL ad G O H locs) {index : Nat} {v : Int32} (hl : Cond.fieldLink own index "BackStepsModel" "time" "I" ∈ gtb) (hdg : decode cc pc = .ok (.putfield index, 3)) (kk : ∀ (H1 : Heap) (locs1 : List Loc), gB s0 s D cI cL ad (g_up G 16 11 v) O H1 locs1 → W p l e R s m args below meth c H1 locs1 cells slots Q  (F0 m (pc + 3) ls rest)) : W p l e R s m args below meth c H locs cells slots Q  (F0 m pc ls (.int v :: .ref (ad 16) :: rest)) :=
  va_put (q0 := 16) (k := 11) (ty := .int) hC.1 hC.2.1 hC.2.2.2.2 in_Mo t_Mo t_Mo_ok n_Mo hC.2.2.2.1 hB.2.1 hB.1 hB.2.2.1 hB.2.2.2.1 rfl rfl (by decide) (hC.2.2.2.2 _ hl) (fun _ h => h) rfl (by decide +kernel) rfl rfl (Nat.le_of_ble_eq_true rfl) hdg (fun H1 locs1 hP hD hS => kk H1 locs1 ⟨hP, hB.2.1, hD, hS, hB.2.2.2.2⟩)
theorem gg_16_12 (hC : CallFix p m c cc nL s args gtb own) (hB : gB s0 s D cI cL ad G O H locs) {index : Nat} {x : Int32} (hx : G 16 12 = x) (hl : Cond.fieldLink own index "BackStepsModel" "oldest" "I" ∈ gtb) (hdg : decode cc pc = .ok (.getfield index, 3)) (kk : W p l e R s m args below meth c H locs cells slots Q  (F0 m (pc + 3) ls (.int x :: rest))) : W p l e R s m args below meth c H locs cells slots Q  (F0 m pc ls (.ref (ad 16) :: rest)) := by
  subst hx
  exact va_get (q0 := 16) (k := 12) hC.1 hC.2.1 hC.2.2.2.2 in_Mo hC.2.2.2.1 hB.2.1 hB.1 rfl rfl (by decide) (hC.2.2.2.2 _ hl) (fun _ h => h) rfl hdg kk
theorem gp_16_12 (hC : CallFix p m c cc nL s args gtb own) (hB : gB s0 s D cI cL ad G O H locs) {index : Nat} {v : Int32} (hl : Cond.fieldLink own index "BackStepsModel" "oldest" "I" ∈ gtb) (hdg : decode cc pc = .ok (.putfield index, 3)) (kk : ∀ (H1 : Heap) (locs1 : List Loc), gB s0 s D cI cL ad (g_up G 16 12 v) O H1 locs1 → W p l e R s m args below meth c H1 locs1 cells slots Q  (F0 m (pc + 3) ls rest)) : W p l e R s m args below meth c H locs cells slots Q  (F0 m pc ls (.int v :: .ref (ad 16) :: rest)) :=
  va_put (q0 := 16) (k := 12) (ty := .int) hC.1 hC.2.1 hC.2.2.2.2 in_Mo t_Mo t_Mo_ok n_Mo hC.2.2.2.1 hB.2.1 hB.1 hB.2.2.1 hB.2.2.2.1 rfl rfl (by decide) (hC.2.2.2.2 _ hl) (fun _ h => h) rfl (by decide +kernel) rfl rfl (Nat.le_of_ble_eq_true rfl) hdg (fun H1 locs1 hP hD hS => kk H1 locs1 ⟨hP, hB.2.1, hD, hS, hB.2.2.2.2⟩)
theorem gg_16_13 (hC : CallFix p m c cc nL s args gtb own) (hB : gB s0 s D cI cL ad G O H locs) {index : Nat} {x : Int32} (hx : G 16 13 = x) (hl : Cond.fieldLink own index "BackStepsModel" "went" "I" ∈ gtb) (hdg : decode cc pc = .ok (.getfield index, 3)) (kk : W p l e R s m args below meth c H locs cells slots Q  (F0 m (pc + 3) ls (.int x :: rest))) : W p l e R s m args below meth c H locs cells slots Q  (F0 m pc ls (.ref (ad 16) :: rest)) := by
  subst hx
  exact va_get (q0 := 16) (k := 13) hC.1 hC.2.1 hC.2.2.2.2 in_Mo hC.2.2.2.1 hB.2.1 hB.1 rfl rfl (by decide) (hC.2.2.2.2 _ hl) (fun _ h => h) rfl hdg kk
theorem gp_16_13 (hC : CallFix p m c cc nL s args gtb own) (hB : gB s0 s D cI cL ad G O H locs) {index : Nat} {v : Int32} (hl : Cond.fieldLink own index "BackStepsModel" "went" "I" ∈ gtb) (hdg : decode cc pc = .ok (.putfield index, 3)) (kk : ∀ (H1 : Heap) (locs1 : List Loc), gB s0 s D cI cL ad (g_up G 16 13 v) O H1 locs1 → W p l e R s m args below meth c H1 locs1 cells slots Q  (F0 m (pc + 3) ls rest)) : W p l e R s m args below meth c H locs cells slots Q  (F0 m pc ls (.int v :: .ref (ad 16) :: rest)) :=
  va_put (q0 := 16) (k := 13) (ty := .int) hC.1 hC.2.1 hC.2.2.2.2 in_Mo t_Mo t_Mo_ok n_Mo hC.2.2.2.1 hB.2.1 hB.1 hB.2.2.1 hB.2.2.2.1 rfl rfl (by decide) (hC.2.2.2.2 _ hl) (fun _ h => h) rfl (by decide +kernel) rfl rfl (Nat.le_of_ble_eq_true rfl) hdg (fun H1 locs1 hP hD hS => kk H1 locs1 ⟨hP, hB.2.1, hD, hS, hB.2.2.2.2⟩)
theorem gg_16_14 (hC : CallFix p m c cc nL s args gtb own) (hB : gB s0 s D cI cL ad G O H locs) {index : Nat} {x : Int32} (hx : G 16 14 = x) (hl : Cond.fieldLink own index "BackStepsModel" "written" "I" ∈ gtb) (hdg : decode cc pc = .ok (.getfield index, 3)) (kk : W p l e R s m args below meth c H locs cells slots Q  (F0 m (pc + 3) ls (.int x :: rest))) : W p l e R s m args below meth c H locs cells slots Q  (F0 m pc ls (.ref (ad 16) :: rest)) := by
  subst hx
  exact va_get (q0 := 16) (k := 14) hC.1 hC.2.1 hC.2.2.2.2 in_Mo hC.2.2.2.1 hB.2.1 hB.1 rfl rfl (by decide) (hC.2.2.2.2 _ hl) (fun _ h => h) rfl hdg kk
theorem gp_16_14 (hC : CallFix p m c cc nL s args gtb own) (hB : gB s0 s D cI cL ad G O H locs) {index : Nat} {v : Int32} (hl : Cond.fieldLink own index "BackStepsModel" "written" "I" ∈ gtb) (hdg : decode cc pc = .ok (.putfield index, 3)) (kk : ∀ (H1 : Heap) (locs1 : List Loc), gB s0 s D cI cL ad (g_up G 16 14 v) O H1 locs1 → W p l e R s m args below meth c H1 locs1 cells slots Q  (F0 m (pc + 3) ls rest)) : W p l e R s m args below meth c H locs cells slots Q  (F0 m pc ls (.int v :: .ref (ad 16) :: rest)) :=
  va_put (q0 := 16) (k := 14) (ty := .int) hC.1 hC.2.1 hC.2.2.2.2 in_Mo t_Mo t_Mo_ok n_Mo hC.2.2.2.1 hB.2.1 hB.1 hB.2.2.1 hB.2.2.2.1 rfl rfl (by decide) (hC.2.2.2.2 _ hl) (fun _ h => h) rfl (by decide +kernel) rfl rfl (Nat.le_of_ble_eq_true rfl) hdg (fun H1 locs1 hP hD hS => kk H1 locs1 ⟨hP, hB.2.1, hD, hS, hB.2.2.2.2⟩)
theorem ga_17 (hC : CallFix p m c cc nL s args gtb own) (hB : gB s0 s D cI cL ad G O H locs) {i x : Int32} (hin : vp_in i 64) (hx : G 17 i.toNatClampNeg = x) (hdg : decode cc pc = .ok (.iaload, 1)) (kk : W p l e R s m args below meth c H locs cells slots Q  (F0 m (pc + 1) ls (.int x :: rest))) : W p l e R s m args below meth c H locs cells slots Q  (F0 m pc ls (.int i :: .ref (ad 17) :: rest)) := by
  subst hx
  exact va_iald (q0 := 17) (t0 := 0) hC.1 hC.2.1 hB.2.1 hB.1 rfl rfl hin hdg kk
theorem gs_17 (hC : CallFix p m c cc nL s args gtb own) (hB : gB s0 s D cI cL ad G O H locs) {i x : Int32} (hin : vp_in i 64) (hdg : decode cc pc = .ok (.iastore, 1)) (kk : ∀ (H1 : Heap) (locs1 : List Loc), gB s0 s D cI cL ad (g_up G 17 i.toNatClampNeg x) O H1 locs1 → W p l e R s m args below meth c H1 locs1 cells slots Q  (F0 m (pc + 1) ls rest)) : W p l e R s m args below meth c H locs cells slots Q  (F0 m pc ls (.int x :: .int i :: .ref (ad 17) :: rest)) :=
  va_iast (q0 := 17) (t0 := 0) hC.1 hC.2.1 hB.2.1 hB.1 hB.2.2.1 hB.2.2.2.1 rfl rfl hin hdg (fun H1 locs1 hP hD hS => kk H1 locs1 ⟨hP, hB.2.1, hD, hS, hB.2.2.2.2⟩)
theorem ga_18 (hC : CallFix p m c cc nL s args gtb own) (hB : gB s0 s D cI cL ad G O H locs) {i x : Int32} (hin : vp_in i 200) (hx : G 18 i.toNatClampNeg = x) (hdg : decode cc pc = .ok (.iaload, 1)) (kk : W p l e R s m args below meth c H locs cells slots Q  (F0 m (pc + 1) ls (.int x :: rest))) : W p l e R s m args below meth c H locs cells slots Q  (F0 m pc ls (.int i :: .ref (ad 18) :: rest)) := by
  subst hx
  exact va_iald (q0 := 18) (t0 := 0) hC.1 hC.2.1 hB.2.1 hB.1 rfl rfl hin hdg kk
theorem gs_18 (hC : CallFix p m c cc nL s args gtb own) (hB : gB s0 s D cI cL ad G O H locs) {i x : Int32} (hin : vp_in i 200) (hdg : decode cc pc = .ok (.iastore, 1)) (kk : ∀ (H1 : Heap) (locs1 : List Loc), gB s0 s D cI cL ad (g_up G 18 i.toNatClampNeg x) O H1 locs1 → W p l e R s m args below meth c H1 locs1 cells slots Q  (F0 m (pc + 1) ls rest)) : W p l e R s m args below meth c H locs cells slots Q  (F0 m pc ls (.int x :: .int i :: .ref (ad 18) :: rest)) :=
  va_iast (q0 := 18) (t0 := 0) hC.1 hC.2.1 hB.2.1 hB.1 hB.2.2.1 hB.2.2.2.1 rfl rfl hin hdg (fun H1 locs1 hP hD hS => kk H1 locs1 ⟨hP, hB.2.1, hD, hS, hB.2.2.2.2⟩)
theorem ga_19 (hC : CallFix p m c cc nL s args gtb own) (hB : gB s0 s D cI cL ad G O H locs) {i x : Int32} (hin : vp_in i 269) (hx : G 19 i.toNatClampNeg = x) (hdg : decode cc pc = .ok (.iaload, 1)) (kk : W p l e R s m args below meth c H locs cells slots Q  (F0 m (pc + 1) ls (.int x :: rest))) : W p l e R s m args below meth c H locs cells slots Q  (F0 m pc ls (.int i :: .ref (ad 19) :: rest)) := by
  subst hx
  exact va_iald (q0 := 19) (t0 := 0) hC.1 hC.2.1 hB.2.1 hB.1 rfl rfl hin hdg kk
theorem gs_19 (hC : CallFix p m c cc nL s args gtb own) (hB : gB s0 s D cI cL ad G O H locs) {i x : Int32} (hin : vp_in i 269) (hdg : decode cc pc = .ok (.iastore, 1)) (kk : ∀ (H1 : Heap) (locs1 : List Loc), gB s0 s D cI cL ad (g_up G 19 i.toNatClampNeg x) O H1 locs1 → W p l e R s m args below meth c H1 locs1 cells slots Q  (F0 m (pc + 1) ls rest)) : W p l e R s m args below meth c H locs cells slots Q  (F0 m pc ls (.int x :: .int i :: .ref (ad 19) :: rest)) :=
  va_iast (q0 := 19) (t0 := 0) hC.1 hC.2.1 hB.2.1 hB.1 hB.2.2.1 hB.2.2.2.1 rfl rfl hin hdg (fun H1 locs1 hP hD hS => kk H1 locs1 ⟨hP, hB.2.1, hD, hS, hB.2.2.2.2⟩)
theorem ga_20 (hC : CallFix p m c cc nL s args gtb own) (hB : gB s0 s D cI cL ad G O H locs) {i x : Int32} (hin : vp_in i 269) (hx : G 20 i.toNatClampNeg = x) (hdg : decode cc pc = .ok (.iaload, 1)) (kk : W p l e R s m args below meth c H locs cells slots Q  (F0 m (pc + 1) ls (.int x :: rest))) : W p l e R s m args below meth c H locs cells slots Q  (F0 m pc ls (.int i :: .ref (ad 20) :: rest)) := by
  subst hx
  exact va_iald (q0 := 20) (t0 := 0) hC.1 hC.2.1 hB.2.1 hB.1 rfl rfl hin hdg kk
theorem gs_20 (hC : CallFix p m c cc nL s args gtb own) (hB : gB s0 s D cI cL ad G O H locs) {i x : Int32} (hin : vp_in i 269) (hdg : decode cc pc = .ok (.iastore, 1)) (kk : ∀ (H1 : Heap) (locs1 : List Loc), gB s0 s D cI cL ad (g_up G 20 i.toNatClampNeg x) O H1 locs1 → W p l e R s m args below meth c H1 locs1 cells slots Q  (F0 m (pc + 1) ls rest)) : W p l e R s m args below meth c H locs cells slots Q  (F0 m pc ls (.int x :: .int i :: .ref (ad 20) :: rest)) :=
  va_iast (q0 := 20) (t0 := 0) hC.1 hC.2.1 hB.2.1 hB.1 hB.2.2.1 hB.2.2.2.1 rfl rfl hin hdg (fun H1 locs1 hP hD hS => kk H1 locs1 ⟨hP, hB.2.1, hD, hS, hB.2.2.2.2⟩)
theorem ga_21 (hC : CallFix p m c cc nL s args gtb own) (hB : gB s0 s D cI cL ad G O H locs) {i x : Int32} (hin : vp_in i 275725) (hx : G 21 i.toNatClampNeg = x) (hdg : decode cc pc = .ok (.iaload, 1)) (kk : W p l e R s m args below meth c H locs cells slots Q  (F0 m (pc + 1) ls (.int x :: rest))) : W p l e R s m args below meth c H locs cells slots Q  (F0 m pc ls (.int i :: .ref (ad 21) :: rest)) := by
  subst hx
  exact va_iald (q0 := 21) (t0 := 0) hC.1 hC.2.1 hB.2.1 hB.1 rfl rfl hin hdg kk
theorem gs_21 (hC : CallFix p m c cc nL s args gtb own) (hB : gB s0 s D cI cL ad G O H locs) {i x : Int32} (hin : vp_in i 275725) (hdg : decode cc pc = .ok (.iastore, 1)) (kk : ∀ (H1 : Heap) (locs1 : List Loc), gB s0 s D cI cL ad (g_up G 21 i.toNatClampNeg x) O H1 locs1 → W p l e R s m args below meth c H1 locs1 cells slots Q  (F0 m (pc + 1) ls rest)) : W p l e R s m args below meth c H locs cells slots Q  (F0 m pc ls (.int x :: .int i :: .ref (ad 21) :: rest)) :=
  va_iast (q0 := 21) (t0 := 0) hC.1 hC.2.1 hB.2.1 hB.1 hB.2.2.1 hB.2.2.2.1 rfl rfl hin hdg (fun H1 locs1 hP hD hS => kk H1 locs1 ⟨hP, hB.2.1, hD, hS, hB.2.2.2.2⟩)
theorem ga_22 (hC : CallFix p m c cc nL s args gtb own) (hB : gB s0 s D cI cL ad G O H locs) {i x : Int32} (hin : vp_in i 1025) (hx : G 22 i.toNatClampNeg = x) (hdg : decode cc pc = .ok (.iaload, 1)) (kk : W p l e R s m args below meth c H locs cells slots Q  (F0 m (pc + 1) ls (.int x :: rest))) : W p l e R s m args below meth c H locs cells slots Q  (F0 m pc ls (.int i :: .ref (ad 22) :: rest)) := by
  subst hx
  exact va_iald (q0 := 22) (t0 := 0) hC.1 hC.2.1 hB.2.1 hB.1 rfl rfl hin hdg kk
theorem gs_22 (hC : CallFix p m c cc nL s args gtb own) (hB : gB s0 s D cI cL ad G O H locs) {i x : Int32} (hin : vp_in i 1025) (hdg : decode cc pc = .ok (.iastore, 1)) (kk : ∀ (H1 : Heap) (locs1 : List Loc), gB s0 s D cI cL ad (g_up G 22 i.toNatClampNeg x) O H1 locs1 → W p l e R s m args below meth c H1 locs1 cells slots Q  (F0 m (pc + 1) ls rest)) : W p l e R s m args below meth c H locs cells slots Q  (F0 m pc ls (.int x :: .int i :: .ref (ad 22) :: rest)) :=
  va_iast (q0 := 22) (t0 := 0) hC.1 hC.2.1 hB.2.1 hB.1 hB.2.2.1 hB.2.2.2.1 rfl rfl hin hdg (fun H1 locs1 hP hD hS => kk H1 locs1 ⟨hP, hB.2.1, hD, hS, hB.2.2.2.2⟩)
theorem ga_23 (hC : CallFix p m c cc nL s args gtb own) (hB : gB s0 s D cI cL ad G O H locs) {i x : Int32} (hin : vp_in i 1025) (hx : G 23 i.toNatClampNeg = x) (hdg : decode cc pc = .ok (.iaload, 1)) (kk : W p l e R s m args below meth c H locs cells slots Q  (F0 m (pc + 1) ls (.int x :: rest))) : W p l e R s m args below meth c H locs cells slots Q  (F0 m pc ls (.int i :: .ref (ad 23) :: rest)) := by
  subst hx
  exact va_iald (q0 := 23) (t0 := 0) hC.1 hC.2.1 hB.2.1 hB.1 rfl rfl hin hdg kk
theorem gs_23 (hC : CallFix p m c cc nL s args gtb own) (hB : gB s0 s D cI cL ad G O H locs) {i x : Int32} (hin : vp_in i 1025) (hdg : decode cc pc = .ok (.iastore, 1)) (kk : ∀ (H1 : Heap) (locs1 : List Loc), gB s0 s D cI cL ad (g_up G 23 i.toNatClampNeg x) O H1 locs1 → W p l e R s m args below meth c H1 locs1 cells slots Q  (F0 m (pc + 1) ls rest)) : W p l e R s m args below meth c H locs cells slots Q  (F0 m pc ls (.int x :: .int i :: .ref (ad 23) :: rest)) :=
  va_iast (q0 := 23) (t0 := 0) hC.1 hC.2.1 hB.2.1 hB.1 hB.2.2.1 hB.2.2.2.1 rfl rfl hin hdg (fun H1 locs1 hP hD hS => kk H1 locs1 ⟨hP, hB.2.1, hD, hS, hB.2.2.2.2⟩)
end GRows
end
section
/-! Starts, ends and calls of methods over the one world (own rows, over the library's Stand.outOf, outOfThrown, leaveThrown). -/
theorem gwd_ad {ad : Nat → Nat} {cI cL : ClassId} {G : gT} {O : Int64} : ∀ (k : Nat) (q : Nat × va_E), (gwd ad cI cL G O)[k]? = some q → k < 25 ∧ q.1 = ad k
  | 0, q, h => by cases h; exact ⟨by decide, rfl⟩
  | 1, q, h => by cases h; exact ⟨by decide, rfl⟩
  | 2, q, h => by cases h; exact ⟨by decide, rfl⟩
  | 3, q, h => by cases h; exact ⟨by decide, rfl⟩
  | 4, q, h => by cases h; exact ⟨by decide, rfl⟩
  | 5, q, h => by cases h; exact ⟨by decide, rfl⟩
  | 6, q, h => by cases h; exact ⟨by decide, rfl⟩
  | 7, q, h => by cases h; exact ⟨by decide, rfl⟩
  | 8, q, h => by cases h; exact ⟨by decide, rfl⟩
  | 9, q, h => by cases h; exact ⟨by decide, rfl⟩
  | 10, q, h => by cases h; exact ⟨by decide, rfl⟩
  | 11, q, h => by cases h; exact ⟨by decide, rfl⟩
  | 12, q, h => by cases h; exact ⟨by decide, rfl⟩
  | 13, q, h => by cases h; exact ⟨by decide, rfl⟩
  | 14, q, h => by cases h; exact ⟨by decide, rfl⟩
  | 15, q, h => by cases h; exact ⟨by decide, rfl⟩
  | 16, q, h => by cases h; exact ⟨by decide, rfl⟩
  | 17, q, h => by cases h; exact ⟨by decide, rfl⟩
  | 18, q, h => by cases h; exact ⟨by decide, rfl⟩
  | 19, q, h => by cases h; exact ⟨by decide, rfl⟩
  | 20, q, h => by cases h; exact ⟨by decide, rfl⟩
  | 21, q, h => by cases h; exact ⟨by decide, rfl⟩
  | 22, q, h => by cases h; exact ⟨by decide, rfl⟩
  | 23, q, h => by cases h; exact ⟨by decide, rfl⟩
  | 24, q, h => by cases h; exact ⟨by decide, rfl⟩
  | k + 25, q, h => by simp [gwd] at h
theorem g_Dn {ad : Nat → Nat} {cI cL : ClassId} {G G' : gT} {O O' : Int64} {a b : Nat} (h : va_D (gA ad a) (gwd ad cI cL G O)) : va_D (gA ad b) (gwd ad cI cL G O) := ⟨h.1, fun k q hk => Or.inl ⟨k, (gwd_ad k q hk).1, (gwd_ad k q hk).2⟩⟩
/-- what a method's code word says -/
def gCode (wy : Cond) (y : MethodName) (cc : ByteArray) (maxL : Nat) (ret : Option FieldType) (tb : List ExceptionTableEntry) : Prop :=
  ∀ (args : Array Value) (s : State), wy.before args s = true → ∃ m meth c, s.methodNamed? y = some m ∧ s.vm.method? m = some meth ∧ meth.code = some c ∧ c.code = cc ∧ c.maxLocals = maxL ∧ meth.sig.returnType = ret ∧ meth.locks = false ∧ c.exceptionTable.toList = tb ∧ parseMethodDescriptor y.desc = some meth.sig
theorem gCode_of (y : MethodName) (cc : ByteArray) (maxL : Nat) (ret : Option FieldType) : gCode (Cond.code y cc maxL ret) y cc maxL ret [] := by
  intro args s h
  obtain ⟨m, hn⟩ := Cond.code_named h
  obtain ⟨meth, c, h1, h2, h3, h4, h5, h6, h7, h8⟩ := Cond.code_spec hn h
  refine ⟨m, meth, c, hn, h1, h2, h3, h4, h5, h6, ?_, h8⟩
  have h0 : c.exceptionTable.size = 0 := by simpa [Array.isEmpty] using h7
  exact List.eq_nil_of_length_eq_zero (by simpa using h0)
theorem gCode_with (y : MethodName) (cc : ByteArray) (maxL : Nat) (ret : Option FieldType) (hh : List (Nat × Nat × Nat × Nat)) : gCode (Cond.codeWith y cc maxL ret hh) y cc maxL ret (tableOf hh) := by
  intro args s h
  obtain ⟨m, meth, c, hn, h1, h2, h3, h4, h5, h6, h7, h8⟩ := Cond.codeWith_spec h
  refine ⟨m, meth, c, hn, h1, h2, h3, h4, h6, h7, ?_, h8⟩
  rw [← h5]
  exact (table_eq _).symm
/-- A METHOD's BODY gives its contract -/
theorem g_body {l : Launch} {y : MethodName} {wy : Cond} {rm : Room} {av : (Nat → Nat) → List Value} {G : gT} {O : Int64} {o : gO} {G' : gT} {O' : Int64} {cc : ByteArray} {maxL : Nat} {ret : Option FieldType} {tb : List ExceptionTableEntry}
    (hy : plainName y.cls = true) (hw : gCode wy y cc maxL ret tb) (hlen : ∀ ad, (lg_sl (av ad)).length ≤ maxL)
    (body : ∀ (p : Program) (e : Env) (s0 s : State) (m : MethodId) (args : Array Value) (below : List Frame) (meth : Method) (c : Code) (D : va_G) (cI cL : ClassId) (ad : Nat → Nat), CallFix p m c cc maxL s args gtb y.cls → meth.sig.returnType = ret → meth.locks = false → c.exceptionTable.toList = tb → gB s0 s D cI cL ad G O s.heap [] →
      ∀ ls : Array Slot, lv_has ls maxL (lv_args 0 (av ad)) → W p l e rm s m args below meth c s.heap [] 0 0 (gE s0 below args s D cI cL ad rm.cells rm.slots o G' O') (F0 m 0 ls [])) : gMet l y wy rm av G O o G' O' := by
  intro s0 D cI cL ad sz
  refine MetFree.of_bodyS (code := cc) (maxLocals := maxL) (ret := ret) hy ?_ ?_
  · intro args s m h hn
    obtain ⟨m', meth, c, hn', h1, h2, h3, h4, h5, h6, -, -⟩ := hw args s (atoms_spec (ws := [wy]) h _ List.mem_cons_self)
    cases hn.symm.trans hn'
    exact ⟨meth, c, h1, h2, h3, h4, h5, h6⟩
  · intro p e s m args below meth c s₁ B hml hPP _
    obtain ⟨rfl, rfl, hP, hK, hD, hX⟩ := hPP
    have X0 : Stand p l e (headSpec [wy] rm).room s m (av ad).toArray below meth c s₁ [] 0 0 := Stand.of_body B
    obtain ⟨m', meth', c', hn', h1, h2, h3, h4, h5, h6, h7, -⟩ := hw (av ad).toArray s (atoms_spec (ws := [wy]) B.pre _ List.mem_cons_self)
    cases B.named.symm.trans hn'
    cases B.method.symm.trans h1
    cases X0.code.symm.trans h2
    have hh0 : s₁.heap = s.heap := by rw [B.state]; rfl
    have hC : CallFix p m c cc maxL s (av ad).toArray gtb y.cls := ⟨B.exec, B.bytes, hml, findClass_of_methodNamed B.named, g_word hX⟩
    have hl := lv_entry (av ad) (n := maxL) (hlen ad)
    have K := body p e s0 s m (av ad).toArray below meth c D cI cL ad hC B.returns B.notSynchronized h7 ⟨hP, hK, hD, va_S.rf, hX⟩ _ hl
    obtain ⟨t, a1, oc, b1, b2, b3⟩ := K s₁ hh0 X0
    refine ⟨t, oc, ?_, b1, b2, b3⟩
    rw [lg_entry_eq]
    exact a1
section GEnds
variable {p : Program} {l : Launch} {e : Env} {R : Room} {s0 s : State} {m : MethodId} {args : Array Value} {below : List Frame} {meth : Method} {c : Code} {H : Heap} {locs : List Loc} {cells slots mc ms : Nat} {Q : State → Prop} {cc : ByteArray} {nL pc : Nat} {ls : Array Slot} {rest : List Value} {own : String} {D : va_G} {cI cL : ClassId} {ad : Nat → Nat} {G : gT} {O : Int64}
theorem g_gW (hB : gB s0 s D cI cL ad G O H locs) {t : State} (ht : t.heap = H) (hW : s.WarmedH t.vm) : gW s0 D cI cL ad s.heap.size G O t :=
  ⟨by rw [ht]; exact hB.1, va_K.moved hW.alike hB.2.1, hB.2.2.1, gX_moved hB.2.2.2.2 hB.2.2.2.1 ht hW⟩
theorem g_MQ {v : Option Value} {a : Array Value} (t : State) (h : MQ below (fun _ st oc t => oc = .returned v ∧ va_F (gA ad s.heap.size) st t ∧ gW s0 D cI cL ad s.heap.size G O t) a s mc ms (gA ad s.heap.size) t) : gE s0 below a s D cI cL ad mc ms (.inl v) G O t := by
  obtain ⟨oc, h1, h2, ⟨h3, h4, h5⟩, L, ⟨-, h6, h7⟩, h8⟩ := h
  exact ⟨oc, h1, h2, ⟨L, h6, h7, h8⟩, h4, h5, h3⟩
theorem g_iret (hC : CallFix p m c cc nL s args gtb own) (hB : gB s0 s D cI cL ad G O H locs) (hr : meth.sig.returnType = some .int) (hlk : meth.locks = false) (hc : cells ≤ mc) (hs : slots ≤ ms) {v : Int32} {o : gO} {G' : gT} (ho : o = .inl (some (.int v))) (hG : G' = G) (hdg : decode cc pc = .ok (.ireturn, 1)) :
    W p l e R s m args below meth c H locs cells slots (gE s0 below args s D cI cL ad mc ms o G' O) (F0 m pc ls [.int v]) := by
  subst ho
  subst hG
  exact W.widen hc hs (W_mono g_MQ (W.iret (v := v) hC.1 hC.2.1 hr (fun t ht hW => ⟨rfl, hB.2.2.2.1.F ht, g_gW hB ht hW⟩) hB.2.2.2.1.2.2 hdg hlk))
theorem g_zret (hC : CallFix p m c cc nL s args gtb own) (hB : gB s0 s D cI cL ad G O H locs) (hr : meth.sig.returnType = some .boolean) (hlk : meth.locks = false) (hc : cells ≤ mc) (hs : slots ≤ ms) {v : Int32} {o : gO} {G' : gT} (hv : v = 0 ∨ v = 1) (ho : o = .inl (some (.int v))) (hG : G' = G) (hdg : decode cc pc = .ok (.ireturn, 1)) :
    W p l e R s m args below meth c H locs cells slots (gE s0 below args s D cI cL ad mc ms o G' O) (F0 m pc ls [.int v]) := by
  subst ho
  subst hG
  exact W.widen hc hs (W_mono g_MQ (W.zret (v := v) (ty := .boolean) hC.1 hC.2.1 hr (by rcases hv with rfl | rfl <;> decide +kernel) (fun t ht hW => ⟨rfl, hB.2.2.2.1.F ht, g_gW hB ht hW⟩) hB.2.2.2.1.2.2 hdg hlk))
theorem g_vret (hC : CallFix p m c cc nL s args gtb own) (hB : gB s0 s D cI cL ad G O H locs) (hr : meth.sig.returnType = none) (hlk : meth.locks = false) (hc : cells ≤ mc) (hs : slots ≤ ms) {o : gO} {G' : gT} (ho : o = .inl none) (hG : G' = G) (hdg : decode cc pc = .ok (.return_, 1)) :
    W p l e R s m args below meth c H locs cells slots (gE s0 below args s D cI cL ad mc ms o G' O) (F0 m pc ls []) := by
  subst ho
  subst hG
  exact W.widen hc hs (W_mono g_MQ (W.vret hC.1 hC.2.1 hr (fun t ht hW => ⟨rfl, hB.2.2.2.1.F ht, g_gW hB ht hW⟩) hB.2.2.2.1.2.2 hdg hlk))
end GEnds
section GCall
variable {p : Program} {l : Launch} {e : Env} {R : Room} {s0 s : State} {m : MethodId} {args : Array Value} {below : List Frame} {meth : Method} {c : Code} {H : Heap} {locs : List Loc} {cells slots mc ms : Nat} {Q : State → Prop} {cc : ByteArray} {nL pc : Nat} {ls : Array Slot} {rest : List Value} {own : String} {D : va_G} {cI cL : ClassId} {ad : Nat → Nat} {G : gT} {O : Int64}
/-- the frame g, q thrown over it -/
def gTh (p : Program) (l : Launch) (e : Env) (R : Room) (s : State) (m : MethodId) (args : Array Value) (below : List Frame) (meth : Method) (c : Code) (H : Heap) (locs : List Loc) (cells slots : Nat) (Q : State → Prop) (g : JFrame) (q : Addr) : Prop :=
  ∀ T : State, T.heap = H → Stand p l e R s m args below meth c T locs cells slots → ∃ t, Steps p.tables e below ((T.setTop g).pushFrame (.throwing q)) t ∧ Q t
theorem g_inv {y : MethodName} {wy : Cond} {rm : Room} {av : (Nat → Nat) → List Value} {o : gO} {G' : gT} {O' : Int64} {T : State} {g : JFrame} {ig : Instr} {len : Nat} {mk : MethodId} {methk : Method} {ck : Code} {k : Class}
    (hM : gMet l y wy rm av G O o G' O') (X : Stand p l e R s m args below meth c T locs cells slots) (hT : T.heap = H) (hB : gB s0 s D cI cL ad G O H locs)
    (hg : g.method = m) (hsize : g.locals.size = c.maxLocals) (hdg : decode c.code g.pc = .ok (ig, len))
    (hn : T.methodNamed? y = some mk) (hmk : T.vm.method? mk = some methk) (hck : methk.code = some ck) (hk : T.vm.classes[mk.cls]? = some k) (hki : k.init = .initialized)
    (hwy : ∀ a, wy.before a T = true)
    (hfr : rm.frames + 1 ≤ R.frames) (hlo : 2 * g.monitorRoom + (g.stack.map fun v => v.category).sum + (ck.maxLocals + 11) + rm.locals ≤ R.locals) (hcs : cells + rm.cells ≤ R.cells) (hss : slots + rm.slots ≤ R.slots) :
    ∃ (T' : State) (locs' : List Loc), Stand p l e R s m args below meth c T' locs' (cells + rm.cells) (slots + rm.slots) ∧ gB s0 s D cI cL ad G' O' T'.heap locs' ∧
      ((∃ v, o = .inl v ∧ Steps p.tables e below (doInvoke e (T.setTop g) [] mk (av ad).toArray).1 (T'.setTop { g with pc := g.pc + len, stack := v.toList ++ g.stack })) ∨
       (∃ (E : String) (q : Nat) (ce : Cell), o = .inr E ∧ T'.heap[q]? = some ce ∧ ce.vm = .none ∧ s.vm.findClass E = some ce.cls ∧ Steps p.tables e below (doInvoke e (T.setTop g) [] mk (av ad).toArray).1 ((T'.setTop g).pushFrame (.throwing q)))) := by
  obtain ⟨hP, hK, hD, hS, hX⟩ := id hB
  have hAt : At T g.method c below := by rw [hg]; exact X.here
  have hfrm : (T.setTop g).frames = .java g :: below := by rw [State.frames_setTop' g hAt.top, X.tail]
  have hpre : (headSpec [wy] rm).pre.before (av ad).toArray T = true := atoms_intro (fun w hw => by rw [List.mem_singleton.mp hw]; exact hwy _)
  have happ : (headSpec [wy] rm).appliesLoose y e.platform (T.calling g mk (av ad).toArray) = true :=
    Spec.appliesLoose_calling (g := g) hAt hdg hn hk hki (X.room_calling (g := g) (R' := rm) hsize hmk hck hfr hlo hcs hss) hpre
  have hgw : gW s0 D cI cL ad H.size G O (T.calling g mk (av ad).toArray) :=
    ⟨by rw [← hT] at hP; exact hP, va_K.moved X.warmed.alike hK, g_Dn (G' := G) (O' := O) hD, gX_moved hX hS hT X.warmed⟩
  obtain ⟨oc, t, hst, hrun, hend, hq⟩ := Steps.callFree (hM s0 D cI cL ad H.size) p X.admits X.cas X.clock (acts := []) (mid := [.java g]) (below := below) hfrm happ ⟨rfl, by rw [← hT]; rfl, hgw⟩ trivial
  obtain ⟨⟨L, hW, hsame, hL⟩, hF, hgw', hout⟩ := hq
  rw [hfrm] at hend
  have hF : va_F (gA ad H.size) (T.calling g mk (av ad).toArray) t := hF
  have hTH : (T.calling g mk (av ad).toArray).heap = H := hT
  have hz : H.size ≤ t.heap.size := by rw [← hTH]; exact hF.1
  have hle : s.heap.size ≤ H.size := hS.1
  have hB' : ∀ T' : State, T'.heap = t.heap → gB s0 s D cI cL ad G' O' T'.heap (locs ++ L) := by
    intro T' hh
    refine ⟨by rw [hh]; exact hgw'.1, hK, g_Dn (G' := G) (O' := O) hgw'.2.2.1, ⟨by rw [hh]; omega, fun q h1 h2 => ?_, fun z hz' => ?_⟩, hX⟩
    · have h3 : t.heap[q]? = H[q]? := by
        have := hF.2 q (by rw [hTH]; omega) (fun h => h2 (gA_mono hle h))
        rw [hTH] at this
        exact this
      rw [hh, h3]
      exact hS.2.1 q h1 h2
    · rcases List.mem_append.mp hz' with h | h
      · exact hS.2.2 z h
      · exact gA_mono hle (hL z h)
  cases o with
  | inl v =>
    have hoc : oc = .returned v := hout
    subst hoc
    obtain ⟨T', X', -, -, ht⟩ := X.outOf hg hdg hend hW hsame
    have hh : T'.heap = t.heap := by rw [ht]; rfl
    refine ⟨T', locs ++ L, X', hB' T' hh, Or.inl ⟨v, rfl, ?_⟩⟩
    rw [← ht]
    exact hst
  | inr E =>
    obtain ⟨q, ce, hoc, hce, hcv, hcl⟩ := hout
    subst hoc
    obtain ⟨T', X', -, -, ht⟩ := X.outOfThrown hg hend hW hsame
    have hh : T'.heap = t.heap := by rw [ht, State.pushFrame]; rfl
    have hcl' : s.vm.findClass E = some ce.cls := by
      have h1 : T.vm.findClass E = some ce.cls := hcl
      rw [X.warmed.alike.findClass] at h1
      exact h1
    refine ⟨T', locs ++ L, X', hB' T' hh, Or.inr ⟨E, q, ce, rfl, by rw [hh]; exact hce, hcv, hcl', ?_⟩⟩
    rw [← ht]
    exact hst
/-- what is known of a callee: its words, its name -/
def gKey (y : MethodName) (wy : Cond) (maxL n : Nat) : Prop := wy ∈ gtb ∧ (∃ cc ret tb, gCode wy y cc maxL ret tb) ∧ Cond.initialized y.cls ∈ gtb ∧ (y.cls ≠ "java/lang/invoke/MethodHandle" ∧ y.cls ≠ "java/lang/invoke/VarHandle") ∧ (parseMethodDescriptor y.desc).map (fun d => d.parameters.length) = some n
theorem g_callV0 {y : MethodName} {wy : Cond} {rm : Room} {av : (Nat → Nat) → List Value} {o : gO} {G' : gT} {O' : Int64} {b index maxL n : Nat} {As st : List Value}
    (hC : CallFix p m c cc nL s args gtb own) (hB : gB s0 s D cI cL ad G O H locs) (hM : gMet l y wy rm av G O o G' O') (hav : av ad = .ref b :: As) (hk : gKey y wy maxL n) (hn : As.length = n) (hi : Cond.instanceMethod y ∈ gtb) (hs : Cond.selects y.cls y y ∈ gtb) (hl : Cond.methodLink own index y ∈ gtb)
    (hrec : ∃ cellB : Cell, H[b]? = some cellB ∧ cellB.vm.isStatics = false ∧ s.vm.findClass y.cls = some cellB.cls)
    (hst : st = As.reverse ++ .ref b :: rest) (hsz : ls.size = nL) (hR : rm.frames + 1 ≤ R.frames ∧ (rest.map fun v => v.category).sum + (maxL + 11) + rm.locals ≤ R.locals ∧ cells + rm.cells ≤ R.cells ∧ slots + rm.slots ≤ R.slots)
    (hdg : decode cc pc = .ok (.invokevirtual index, 3))
    (kn : ∀ (v : Option Value) (H1 : Heap) (locs1 : List Loc), o = .inl v → gB s0 s D cI cL ad G' O' H1 locs1 → W p l e R s m args below meth c H1 locs1 (cells + rm.cells) (slots + rm.slots) Q (F0 m (pc + 3) ls (v.toList ++ rest)))
    (kt : ∀ (E : String) (q : Nat) (ce : Cell) (H1 : Heap) (locs1 : List Loc), o = .inr E → H1[q]? = some ce → ce.vm = .none → s.vm.findClass E = some ce.cls → gB s0 s D cI cL ad G' O' H1 locs1 → gTh p l e R s m args below meth c H1 locs1 (cells + rm.cells) (slots + rm.slots) Q (F0 m pc ls rest) q) :
    W p l e R s m args below meth c H locs cells slots Q (F0 m pc ls st) := by
  subst hst
  intro T hT X
  obtain ⟨hx, hb, hml, hown, hts⟩ := hC
  obtain ⟨hwy, ⟨cy, ry, ty, hcode⟩, hini, hy, hpar⟩ := hk
  obtain ⟨mk, methM, hnamed, hmethM, hstM, habM⟩ := Cond.instanceMethod_spec (hts _ hi)
  obtain ⟨m9, meth9, ck, hn9, hm9, hck, -, hckL, -, -, -, hsig⟩ := hcode args s (hts _ hwy)
  cases hnamed.symm.trans hn9
  cases hmethM.symm.trans hm9
  obtain ⟨cellB, hcB, hoB, hclB⟩ := hrec
  obtain ⟨c2, r2, m2, q1, q2, q3, q4, kP, hkP, hkPi⟩ := Cond.selects_spec (hts _ hs)
  cases hclB.symm.trans q1
  cases (State.methodFound?_of_named hnamed hy).symm.trans q2
  cases hnamed.symm.trans q3
  have hselP : selectMethod e.platform s.vm cellB.cls mk = .method mk := by rw [Launch.admits_selectMethod X.admits]; exact q4
  have hlen : As.length = methM.sig.parameters.length := by
    rw [hsig] at hpar
    rw [hn]
    exact (Option.some.inj hpar).symm
  obtain ⟨vm₁, X₁, hstep₁⟩ := X.invokevirtual hx hown (hts _ hl) hnamed hmethM hstM hkP hkPi hy (a := b) (cell := cellB) (by rw [hT]; exact hcB)
    (fun z h => by rw [h] at hoB; cases hoB) hselP hmethM habM hkP hkPi (g := F0 m pc ls (As.reverse ++ .ref b :: rest)) rfl (argsL := As) (rest := rest) hlen rfl (by rw [hb]; exact hdg)
  obtain ⟨kP', hkP', he⟩ := X₁.warmed.alike.2.2 _ _ hkP
  have hinitP : kP.init = .initialized := Cond.initialized_spec (findClass_of_methodNamed hnamed) hkP (hts _ hini)
  obtain ⟨T', locs', X', hB', hcase⟩ := g_inv (g := F0 m pc ls rest) hM X₁ hT hB rfl (hsz.trans hml.symm) (by rw [hb]; exact hdg) (X₁.named hnamed) (by rw [X₁.warmed.alike.method?]; exact hmethM) hck hkP' (by rw [he]; exact hinitP)
    (fun a => word_at X₁.warmed (good_of_word (List.mem_filter.mp hwy).2) (hts _ hwy)) hR.1 (by rw [hckL]; show 2 * 0 + (rest.map fun v => v.category).sum + (maxL + 11) + rm.locals ≤ R.locals; have := hR.2.1; omega) hR.2.2.1 hR.2.2.2
  rw [hav] at hcase
  rcases hcase with ⟨v, ho, st⟩ | ⟨E, q, ce, ho, hce, hcv, hcl, st⟩
  · obtain ⟨t, a1, b1⟩ := kn v T'.heap locs' ho hB' T' rfl X'
    exact ⟨t, hstep₁ _ (fun acts => by rw [doInvoke_state]; exact st.trans a1), b1⟩
  · obtain ⟨t, a1, b1⟩ := kt E q ce T'.heap locs' ho hce hcv hcl hB' T' rfl X'
    exact ⟨t, hstep₁ _ (fun acts => by rw [doInvoke_state]; exact st.trans a1), b1⟩
theorem g_callS0 {y : MethodName} {wy : Cond} {rm : Room} {av : (Nat → Nat) → List Value} {o : gO} {G' : gT} {O' : Int64} {index maxL n : Nat} {As st : List Value}
    (hC : CallFix p m c cc nL s args gtb own) (hB : gB s0 s D cI cL ad G O H locs) (hM : gMet l y wy rm av G O o G' O') (hav : av ad = As) (hk : gKey y wy maxL n) (hn : As.length = n) (hi : Cond.static y ∈ gtb) (hl : Cond.methodLink own index y ∈ gtb)
    (hst : st = As.reverse ++ rest) (hsz : ls.size = nL) (hR : rm.frames + 1 ≤ R.frames ∧ (rest.map fun v => v.category).sum + (maxL + 11) + rm.locals ≤ R.locals ∧ cells + rm.cells ≤ R.cells ∧ slots + rm.slots ≤ R.slots)
    (hdg : decode cc pc = .ok (.invokestatic index, 3))
    (kn : ∀ (v : Option Value) (H1 : Heap) (locs1 : List Loc), o = .inl v → gB s0 s D cI cL ad G' O' H1 locs1 → W p l e R s m args below meth c H1 locs1 (cells + rm.cells) (slots + rm.slots) Q (F0 m (pc + 3) ls (v.toList ++ rest)))
    (kt : ∀ (E : String) (q : Nat) (ce : Cell) (H1 : Heap) (locs1 : List Loc), o = .inr E → H1[q]? = some ce → ce.vm = .none → s.vm.findClass E = some ce.cls → gB s0 s D cI cL ad G' O' H1 locs1 → gTh p l e R s m args below meth c H1 locs1 (cells + rm.cells) (slots + rm.slots) Q (F0 m pc ls rest) q) :
    W p l e R s m args below meth c H locs cells slots Q (F0 m pc ls st) := by
  subst hst
  intro T hT X
  obtain ⟨hx, hb, hml, hown, hts⟩ := hC
  obtain ⟨hwy, ⟨cy, ry, ty, hcode⟩, hini, hy, hpar⟩ := hk
  obtain ⟨mk, methM, ck, hnamed, hmethM, hck, -, hckL, -, -, -, hsig⟩ := hcode args s (hts _ hwy)
  have hstatic : methM.isStatic = true := Cond.static_spec hnamed hmethM (hts _ hi)
  obtain ⟨kP, hkP, -⟩ := className_of_methodNamed hnamed
  have hinitP : kP.init = .initialized := Cond.initialized_spec (findClass_of_methodNamed hnamed) hkP (hts _ hini)
  have hlen : As.length = methM.sig.parameters.length := by
    rw [hsig] at hpar
    rw [hn]
    exact (Option.some.inj hpar).symm
  obtain ⟨vm₁, X₁, hstep₁⟩ := X.invokestatic hx hown (hts _ hl) hnamed hmethM hstatic hkP hinitP hy (g := F0 m pc ls (As.reverse ++ rest)) rfl (argsL := As) (rest := rest) hlen rfl (by rw [hb]; exact hdg)
  obtain ⟨kP', hkP', he⟩ := X₁.warmed.alike.2.2 _ _ hkP
  obtain ⟨T', locs', X', hB', hcase⟩ := g_inv (g := F0 m pc ls rest) hM X₁ hT hB rfl (hsz.trans hml.symm) (by rw [hb]; exact hdg) (X₁.named hnamed) (by rw [X₁.warmed.alike.method?]; exact hmethM) hck hkP' (by rw [he]; exact hinitP)
    (fun a => word_at X₁.warmed (good_of_word (List.mem_filter.mp hwy).2) (hts _ hwy)) hR.1 (by rw [hckL]; show 2 * 0 + (rest.map fun v => v.category).sum + (maxL + 11) + rm.locals ≤ R.locals; have := hR.2.1; omega) hR.2.2.1 hR.2.2.2
  rw [hav] at hcase
  rcases hcase with ⟨v, ho, st⟩ | ⟨E, q, ce, ho, hce, hcv, hcl, st⟩
  · obtain ⟨t, a1, b1⟩ := kn v T'.heap locs' ho hB' T' rfl X'
    exact ⟨t, hstep₁ _ (fun acts => by rw [doInvoke_state]; exact st.trans a1), b1⟩
  · obtain ⟨t, a1, b1⟩ := kt E q ce T'.heap locs' ho hce hcv hcl hB' T' rfl X'
    exact ⟨t, hstep₁ _ (fun acts => by rw [doInvoke_state]; exact st.trans a1), b1⟩
theorem g_callV {y : MethodName} {wy : Cond} {rm : Room} {av : (Nat → Nat) → List Value} {v : Option Value} {G' : gT} {O' : Int64} {b index maxL n : Nat} {As st : List Value}
    (hC : CallFix p m c cc nL s args gtb own) (hB : gB s0 s D cI cL ad G O H locs) (hM : gMet l y wy rm av G O (.inl v) G' O') (hav : av ad = .ref b :: As) (hk : gKey y wy maxL n) (hn : As.length = n) (hi : Cond.instanceMethod y ∈ gtb) (hs : Cond.selects y.cls y y ∈ gtb) (hl : Cond.methodLink own index y ∈ gtb)
    (hrec : ∃ cellB : Cell, H[b]? = some cellB ∧ cellB.vm.isStatics = false ∧ s.vm.findClass y.cls = some cellB.cls)
    (hst : st = As.reverse ++ .ref b :: rest) (hsz : ls.size = nL) (hR : rm.frames + 1 ≤ R.frames ∧ (rest.map fun v => v.category).sum + (maxL + 11) + rm.locals ≤ R.locals ∧ cells + rm.cells ≤ R.cells ∧ slots + rm.slots ≤ R.slots)
    (hdg : decode cc pc = .ok (.invokevirtual index, 3))
    (kn : ∀ (H1 : Heap) (locs1 : List Loc), gB s0 s D cI cL ad G' O' H1 locs1 → W p l e R s m args below meth c H1 locs1 (cells + rm.cells) (slots + rm.slots) Q (F0 m (pc + 3) ls (v.toList ++ rest))) :
    W p l e R s m args below meth c H locs cells slots Q (F0 m pc ls st) :=
  g_callV0 hC hB hM hav hk hn hi hs hl hrec hst hsz hR hdg (fun v' H1 locs1 ho hB' => by cases ho; exact kn H1 locs1 hB') (fun E q ce H1 locs1 ho => by cases ho)
theorem g_callS {y : MethodName} {wy : Cond} {rm : Room} {av : (Nat → Nat) → List Value} {v : Option Value} {G' : gT} {O' : Int64} {index maxL n : Nat} {As st : List Value}
    (hC : CallFix p m c cc nL s args gtb own) (hB : gB s0 s D cI cL ad G O H locs) (hM : gMet l y wy rm av G O (.inl v) G' O') (hav : av ad = As) (hk : gKey y wy maxL n) (hn : As.length = n) (hi : Cond.static y ∈ gtb) (hl : Cond.methodLink own index y ∈ gtb)
    (hst : st = As.reverse ++ rest) (hsz : ls.size = nL) (hR : rm.frames + 1 ≤ R.frames ∧ (rest.map fun v => v.category).sum + (maxL + 11) + rm.locals ≤ R.locals ∧ cells + rm.cells ≤ R.cells ∧ slots + rm.slots ≤ R.slots)
    (hdg : decode cc pc = .ok (.invokestatic index, 3))
    (kn : ∀ (H1 : Heap) (locs1 : List Loc), gB s0 s D cI cL ad G' O' H1 locs1 → W p l e R s m args below meth c H1 locs1 (cells + rm.cells) (slots + rm.slots) Q (F0 m (pc + 3) ls (v.toList ++ rest))) :
    W p l e R s m args below meth c H locs cells slots Q (F0 m pc ls st) :=
  g_callS0 hC hB hM hav hk hn hi hl hst hsz hR hdg (fun v' H1 locs1 ho hB' => by cases ho; exact kn H1 locs1 hB') (fun E q ce H1 locs1 ho => by cases ho)
theorem g_callVi {y : MethodName} {wy : Cond} {rm : Room} {av : (Nat → Nat) → List Value} {r : Int32} {G' : gT} {O' : Int64} {b index maxL n : Nat} {As st : List Value}
    (hC : CallFix p m c cc nL s args gtb own) (hB : gB s0 s D cI cL ad G O H locs) (hM : gMet l y wy rm av G O (.inl (some (.int r))) G' O') (hav : av ad = .ref b :: As) (hk : gKey y wy maxL n) (hn : As.length = n) (hi : Cond.instanceMethod y ∈ gtb) (hs : Cond.selects y.cls y y ∈ gtb) (hl : Cond.methodLink own index y ∈ gtb)
    (hrec : ∃ cellB : Cell, H[b]? = some cellB ∧ cellB.vm.isStatics = false ∧ s.vm.findClass y.cls = some cellB.cls)
    (hst : st = As.reverse ++ .ref b :: rest) (hsz : ls.size = nL) (hR : rm.frames + 1 ≤ R.frames ∧ (rest.map fun v => v.category).sum + (maxL + 11) + rm.locals ≤ R.locals ∧ cells + rm.cells ≤ R.cells ∧ slots + rm.slots ≤ R.slots)
    (hdg : decode cc pc = .ok (.invokevirtual index, 3))
    (kn : ∀ (H1 : Heap) (locs1 : List Loc), gB s0 s D cI cL ad G' O' H1 locs1 → W p l e R s m args below meth c H1 locs1 (cells + rm.cells) (slots + rm.slots) Q (F0 m (pc + 3) ls (.int r :: rest))) :
    W p l e R s m args below meth c H locs cells slots Q (F0 m pc ls st) :=
  g_callV hC hB hM hav hk hn hi hs hl hrec hst hsz hR hdg kn
theorem g_callVv {y : MethodName} {wy : Cond} {rm : Room} {av : (Nat → Nat) → List Value} {G' : gT} {O' : Int64} {b index maxL n : Nat} {As st : List Value}
    (hC : CallFix p m c cc nL s args gtb own) (hB : gB s0 s D cI cL ad G O H locs) (hM : gMet l y wy rm av G O (.inl none) G' O') (hav : av ad = .ref b :: As) (hk : gKey y wy maxL n) (hn : As.length = n) (hi : Cond.instanceMethod y ∈ gtb) (hs : Cond.selects y.cls y y ∈ gtb) (hl : Cond.methodLink own index y ∈ gtb)
    (hrec : ∃ cellB : Cell, H[b]? = some cellB ∧ cellB.vm.isStatics = false ∧ s.vm.findClass y.cls = some cellB.cls)
    (hst : st = As.reverse ++ .ref b :: rest) (hsz : ls.size = nL) (hR : rm.frames + 1 ≤ R.frames ∧ (rest.map fun v => v.category).sum + (maxL + 11) + rm.locals ≤ R.locals ∧ cells + rm.cells ≤ R.cells ∧ slots + rm.slots ≤ R.slots)
    (hdg : decode cc pc = .ok (.invokevirtual index, 3))
    (kn : ∀ (H1 : Heap) (locs1 : List Loc), gB s0 s D cI cL ad G' O' H1 locs1 → W p l e R s m args below meth c H1 locs1 (cells + rm.cells) (slots + rm.slots) Q (F0 m (pc + 3) ls rest)) :
    W p l e R s m args below meth c H locs cells slots Q (F0 m pc ls st) :=
  g_callV hC hB hM hav hk hn hi hs hl hrec hst hsz hR hdg kn
theorem g_callSi {y : MethodName} {wy : Cond} {rm : Room} {av : (Nat → Nat) → List Value} {r : Int32} {G' : gT} {O' : Int64} {index maxL n : Nat} {As st : List Value}
    (hC : CallFix p m c cc nL s args gtb own) (hB : gB s0 s D cI cL ad G O H locs) (hM : gMet l y wy rm av G O (.inl (some (.int r))) G' O') (hav : av ad = As) (hk : gKey y wy maxL n) (hn : As.length = n) (hi : Cond.static y ∈ gtb) (hl : Cond.methodLink own index y ∈ gtb)
    (hst : st = As.reverse ++ rest) (hsz : ls.size = nL) (hR : rm.frames + 1 ≤ R.frames ∧ (rest.map fun v => v.category).sum + (maxL + 11) + rm.locals ≤ R.locals ∧ cells + rm.cells ≤ R.cells ∧ slots + rm.slots ≤ R.slots)
    (hdg : decode cc pc = .ok (.invokestatic index, 3))
    (kn : ∀ (H1 : Heap) (locs1 : List Loc), gB s0 s D cI cL ad G' O' H1 locs1 → W p l e R s m args below meth c H1 locs1 (cells + rm.cells) (slots + rm.slots) Q (F0 m (pc + 3) ls (.int r :: rest))) :
    W p l e R s m args below meth c H locs cells slots Q (F0 m pc ls st) :=
  g_callS hC hB hM hav hk hn hi hl hst hsz hR hdg kn
theorem g_callSv {y : MethodName} {wy : Cond} {rm : Room} {av : (Nat → Nat) → List Value} {G' : gT} {O' : Int64} {index maxL n : Nat} {As st : List Value}
    (hC : CallFix p m c cc nL s args gtb own) (hB : gB s0 s D cI cL ad G O H locs) (hM : gMet l y wy rm av G O (.inl none) G' O') (hav : av ad = As) (hk : gKey y wy maxL n) (hn : As.length = n) (hi : Cond.static y ∈ gtb) (hl : Cond.methodLink own index y ∈ gtb)
    (hst : st = As.reverse ++ rest) (hsz : ls.size = nL) (hR : rm.frames + 1 ≤ R.frames ∧ (rest.map fun v => v.category).sum + (maxL + 11) + rm.locals ≤ R.locals ∧ cells + rm.cells ≤ R.cells ∧ slots + rm.slots ≤ R.slots)
    (hdg : decode cc pc = .ok (.invokestatic index, 3))
    (kn : ∀ (H1 : Heap) (locs1 : List Loc), gB s0 s D cI cL ad G' O' H1 locs1 → W p l e R s m args below meth c H1 locs1 (cells + rm.cells) (slots + rm.slots) Q (F0 m (pc + 3) ls rest)) :
    W p l e R s m args below meth c H locs cells slots Q (F0 m pc ls st) :=
  g_callS hC hB hM hav hk hn hi hl hst hsz hR hdg kn
def g_swt (d lo hi : Int) (offs : Array Int) (x : Int) : Int := if x < lo ∨ hi < x then d else (offs[(x - lo).toNat]?).getD d
theorem g_ne {x K : Int32} {k : Int} (h : ¬ x = K) (hk : K.toInt = k) : x.toInt ≠ k := fun e => h (Int32.toInt_inj.mp (e.trans hk.symm))
theorem g_switch {x : Int32} {d lo hi : Int} {offs : Array Int} {len tgt : Nat} (hC : CallFix p m c cc nL s args gtb own) (hdg : decode cc pc = .ok (.tableswitch d lo hi offs, len)) (hz : ∀ i : Nat, (i : Int) ≤ hi - lo → i < offs.size) (ht : (pc : Int) + g_swt d lo hi offs x.toInt = (tgt : Int))
    (k : W p l e R s m args below meth c H locs cells slots Q (F0 m tgt ls rest)) : W p l e R s m args below meth c H locs cells slots Q (F0 m pc ls (.int x :: rest)) := by
  by_cases h : x.toInt < lo ∨ hi < x.toInt
  · exact lv_tableOut hC.1 hC.2.1 hdg h (by rw [g_swt, if_pos h] at ht; exact ht) k
  · have h1 : ¬ x.toInt < lo := fun q => h (Or.inl q)
    have h2 : ¬ hi < x.toInt := fun q => h (Or.inr q)
    have hs : (x.toInt - lo).toNat < offs.size := hz _ (by omega)
    refine lv_tableIn hC.1 hC.2.1 hdg h1 h2 (Array.getElem?_eq_getElem hs) ?_ k
    rw [g_swt, if_neg h, Array.getElem?_eq_getElem hs] at ht
    exact ht
theorem g_rec0 (hB : gB s0 s D cI cL ad G O H locs) : ∃ cellB : Cell, H[ad 0]? = some cellB ∧ cellB.vm.isStatics = false ∧ s.vm.findClass R_BS = some cellB.cls := va_recv hB.2.1 hB.1 (ci := 2) (q0 := 0) rfl rfl
theorem g_rec3 (hB : gB s0 s D cI cL ad G O H locs) : ∃ cellB : Cell, H[ad 3]? = some cellB ∧ cellB.vm.isStatics = false ∧ s.vm.findClass R_Ma = some cellB.cls := va_recv hB.2.1 hB.1 (ci := 0) (q0 := 3) rfl rfl
theorem g_rec5 (hB : gB s0 s D cI cL ad G O H locs) : ∃ cellB : Cell, H[ad 5]? = some cellB ∧ cellB.vm.isStatics = false ∧ s.vm.findClass R_Ma = some cellB.cls := va_recv hB.2.1 hB.1 (ci := 0) (q0 := 5) rfl rfl
theorem g_rec7 (hB : gB s0 s D cI cL ad G O H locs) : ∃ cellB : Cell, H[ad 7]? = some cellB ∧ cellB.vm.isStatics = false ∧ s.vm.findClass R_Ro = some cellB.cls := va_recv hB.2.1 hB.1 (ci := 1) (q0 := 7) rfl rfl
theorem g_rec16 (hB : gB s0 s D cI cL ad G O H locs) : ∃ cellB : Cell, H[ad 16]? = some cellB ∧ cellB.vm.isStatics = false ∧ s.vm.findClass R_Mo = some cellB.cls := va_recv hB.2.1 hB.1 (ci := 3) (q0 := 16) rfl rfl
end GCall
end
section
abbrev w_BS_init : Cond := .code y_BS_init b_BS_init 3 none
abbrev w_BS_program : Cond := .code y_BS_program b_BS_program 4 (some .int)
theorem key_BS_program : gKey y_BS_program w_BS_program 4 2 := ⟨g_mem 262 (by decide +kernel) rfl, ⟨_, _, _, gCode_of _ _ _ _⟩, g_mem 1 (by decide +kernel) rfl, ⟨by decide, by decide⟩, by decide +kernel⟩
theorem ins_BS_program : Cond.instanceMethod y_BS_program ∈ gtb := g_mem 260 (by decide +kernel) rfl
theorem sel_BS_program : Cond.selects y_BS_program.cls y_BS_program y_BS_program ∈ gtb := g_mem 261 (by decide +kernel) rfl
abbrev w_BS_input : Cond := .code y_BS_input b_BS_input 2 (some .int)
theorem key_BS_input : gKey y_BS_input w_BS_input 2 1 := ⟨g_mem 338 (by decide +kernel) rfl, ⟨_, _, _, gCode_of _ _ _ _⟩, g_mem 1 (by decide +kernel) rfl, ⟨by decide, by decide⟩, by decide +kernel⟩
theorem ins_BS_input : Cond.instanceMethod y_BS_input ∈ gtb := g_mem 336 (by decide +kernel) rfl
theorem sel_BS_input : Cond.selects y_BS_input.cls y_BS_input y_BS_input ∈ gtb := g_mem 337 (by decide +kernel) rfl
abbrev w_BS_poke : Cond := .code y_BS_poke b_BS_poke 4 (some .int)
theorem key_BS_poke : gKey y_BS_poke w_BS_poke 4 2 := ⟨g_mem 361 (by decide +kernel) rfl, ⟨_, _, _, gCode_of _ _ _ _⟩, g_mem 1 (by decide +kernel) rfl, ⟨by decide, by decide⟩, by decide +kernel⟩
theorem ins_BS_poke : Cond.instanceMethod y_BS_poke ∈ gtb := g_mem 359 (by decide +kernel) rfl
theorem sel_BS_poke : Cond.selects y_BS_poke.cls y_BS_poke y_BS_poke ∈ gtb := g_mem 360 (by decide +kernel) rfl
abbrev w_BS_step : Cond := .code y_BS_step b_BS_step 3 (some .int)
theorem key_BS_step : gKey y_BS_step w_BS_step 3 1 := ⟨g_mem 378 (by decide +kernel) rfl, ⟨_, _, _, gCode_of _ _ _ _⟩, g_mem 1 (by decide +kernel) rfl, ⟨by decide, by decide⟩, by decide +kernel⟩
theorem ins_BS_step : Cond.instanceMethod y_BS_step ∈ gtb := g_mem 376 (by decide +kernel) rfl
theorem sel_BS_step : Cond.selects y_BS_step.cls y_BS_step y_BS_step ∈ gtb := g_mem 377 (by decide +kernel) rfl
abbrev w_BS_back : Cond := .code y_BS_back b_BS_back 3 (some .int)
theorem key_BS_back : gKey y_BS_back w_BS_back 3 1 := ⟨g_mem 413 (by decide +kernel) rfl, ⟨_, _, _, gCode_of _ _ _ _⟩, g_mem 1 (by decide +kernel) rfl, ⟨by decide, by decide⟩, by decide +kernel⟩
theorem ins_BS_back : Cond.instanceMethod y_BS_back ∈ gtb := g_mem 411 (by decide +kernel) rfl
theorem sel_BS_back : Cond.selects y_BS_back.cls y_BS_back y_BS_back ∈ gtb := g_mem 412 (by decide +kernel) rfl
abbrev w_BS_look : Cond := .code y_BS_look b_BS_look 3 (some .int)
theorem key_BS_look : gKey y_BS_look w_BS_look 3 2 := ⟨g_mem 429 (by decide +kernel) rfl, ⟨_, _, _, gCode_of _ _ _ _⟩, g_mem 1 (by decide +kernel) rfl, ⟨by decide, by decide⟩, by decide +kernel⟩
theorem ins_BS_look : Cond.instanceMethod y_BS_look ∈ gtb := g_mem 427 (by decide +kernel) rfl
theorem sel_BS_look : Cond.selects y_BS_look.cls y_BS_look y_BS_look ∈ gtb := g_mem 428 (by decide +kernel) rfl
abbrev w_BS_wrote : Cond := .code y_BS_wrote b_BS_wrote 3 (some .int)
theorem key_BS_wrote : gKey y_BS_wrote w_BS_wrote 3 1 := ⟨g_mem 445 (by decide +kernel) rfl, ⟨_, _, _, gCode_of _ _ _ _⟩, g_mem 1 (by decide +kernel) rfl, ⟨by decide, by decide⟩, by decide +kernel⟩
theorem ins_BS_wrote : Cond.instanceMethod y_BS_wrote ∈ gtb := g_mem 443 (by decide +kernel) rfl
theorem sel_BS_wrote : Cond.selects y_BS_wrote.cls y_BS_wrote y_BS_wrote ∈ gtb := g_mem 444 (by decide +kernel) rfl
abbrev w_BS_when : Cond := .code y_BS_when b_BS_when 6 (some .int)
theorem key_BS_when : gKey y_BS_when w_BS_when 6 3 := ⟨g_mem 456 (by decide +kernel) rfl, ⟨_, _, _, gCode_of _ _ _ _⟩, g_mem 1 (by decide +kernel) rfl, ⟨by decide, by decide⟩, by decide +kernel⟩
theorem ins_BS_when : Cond.instanceMethod y_BS_when ∈ gtb := g_mem 454 (by decide +kernel) rfl
theorem sel_BS_when : Cond.selects y_BS_when.cls y_BS_when y_BS_when ∈ gtb := g_mem 455 (by decide +kernel) rfl
abbrev w_BS_replay : Cond := .code y_BS_replay b_BS_replay 3 (some .int)
theorem key_BS_replay : gKey y_BS_replay w_BS_replay 3 0 := ⟨g_mem 158 (by decide +kernel) rfl, ⟨_, _, _, gCode_of _ _ _ _⟩, g_mem 1 (by decide +kernel) rfl, ⟨by decide, by decide⟩, by decide +kernel⟩
theorem ins_BS_replay : Cond.instanceMethod y_BS_replay ∈ gtb := g_mem 156 (by decide +kernel) rfl
theorem sel_BS_replay : Cond.selects y_BS_replay.cls y_BS_replay y_BS_replay ∈ gtb := g_mem 157 (by decide +kernel) rfl
abbrev w_BS_cost : Cond := .code y_BS_cost b_BS_cost 2 (some .int)
theorem key_BS_cost : gKey y_BS_cost w_BS_cost 2 1 := ⟨g_mem 463 (by decide +kernel) rfl, ⟨_, _, _, gCode_of _ _ _ _⟩, g_mem 1 (by decide +kernel) rfl, ⟨by decide, by decide⟩, by decide +kernel⟩
theorem ins_BS_cost : Cond.instanceMethod y_BS_cost ∈ gtb := g_mem 461 (by decide +kernel) rfl
theorem sel_BS_cost : Cond.selects y_BS_cost.cls y_BS_cost y_BS_cost ∈ gtb := g_mem 462 (by decide +kernel) rfl
abbrev w_BS_count : Cond := .code y_BS_count b_BS_count 2 (some .int)
theorem key_BS_count : gKey y_BS_count w_BS_count 2 1 := ⟨g_mem 239 (by decide +kernel) rfl, ⟨_, _, _, gCode_of _ _ _ _⟩, g_mem 1 (by decide +kernel) rfl, ⟨by decide, by decide⟩, by decide +kernel⟩
theorem ins_BS_count : Cond.instanceMethod y_BS_count ∈ gtb := g_mem 237 (by decide +kernel) rfl
theorem sel_BS_count : Cond.selects y_BS_count.cls y_BS_count y_BS_count ∈ gtb := g_mem 238 (by decide +kernel) rfl
abbrev w_BS_checkNumber : Cond := .code y_BS_checkNumber b_BS_checkNumber 2 none
theorem key_BS_checkNumber : gKey y_BS_checkNumber w_BS_checkNumber 2 1 := ⟨g_mem 365 (by decide +kernel) rfl, ⟨_, _, _, gCode_of _ _ _ _⟩, g_mem 1 (by decide +kernel) rfl, ⟨by decide, by decide⟩, by decide +kernel⟩
theorem ins_BS_checkNumber : Cond.instanceMethod y_BS_checkNumber ∈ gtb := g_mem 364 (by decide +kernel) rfl
theorem sel_BS_checkNumber : Cond.selects y_BS_checkNumber.cls y_BS_checkNumber y_BS_checkNumber ∈ gtb := g_memS 12 (by decide +kernel) rfl
abbrev w_BS_checkTime : Cond := .code y_BS_checkTime b_BS_checkTime 2 none
theorem key_BS_checkTime : gKey y_BS_checkTime w_BS_checkTime 2 1 := ⟨g_mem 417 (by decide +kernel) rfl, ⟨_, _, _, gCode_of _ _ _ _⟩, g_mem 1 (by decide +kernel) rfl, ⟨by decide, by decide⟩, by decide +kernel⟩
theorem ins_BS_checkTime : Cond.instanceMethod y_BS_checkTime ∈ gtb := g_mem 416 (by decide +kernel) rfl
theorem sel_BS_checkTime : Cond.selects y_BS_checkTime.cls y_BS_checkTime y_BS_checkTime ∈ gtb := g_memS 14 (by decide +kernel) rfl
abbrev w_BS_numberAt : Cond := .code y_BS_numberAt b_BS_numberAt 5 (some .int)
theorem key_BS_numberAt : gKey y_BS_numberAt w_BS_numberAt 5 2 := ⟨g_mem 434 (by decide +kernel) rfl, ⟨_, _, _, gCode_of _ _ _ _⟩, g_mem 1 (by decide +kernel) rfl, ⟨by decide, by decide⟩, by decide +kernel⟩
theorem ins_BS_numberAt : Cond.instanceMethod y_BS_numberAt ∈ gtb := g_mem 433 (by decide +kernel) rfl
theorem sel_BS_numberAt : Cond.selects y_BS_numberAt.cls y_BS_numberAt y_BS_numberAt ∈ gtb := g_memS 15 (by decide +kernel) rfl
abbrev w_BS_restAt : Cond := .code y_BS_restAt b_BS_restAt 3 (some .int)
theorem key_BS_restAt : gKey y_BS_restAt w_BS_restAt 3 2 := ⟨g_mem 231 (by decide +kernel) rfl, ⟨_, _, _, gCode_of _ _ _ _⟩, g_mem 1 (by decide +kernel) rfl, ⟨by decide, by decide⟩, by decide +kernel⟩
theorem ins_BS_restAt : Cond.instanceMethod y_BS_restAt ∈ gtb := g_mem 230 (by decide +kernel) rfl
theorem sel_BS_restAt : Cond.selects y_BS_restAt.cls y_BS_restAt y_BS_restAt ∈ gtb := g_memS 8 (by decide +kernel) rfl
abbrev w_BS_sameRestAt : Cond := .code y_BS_sameRestAt b_BS_sameRestAt 3 (some .boolean)
theorem key_BS_sameRestAt : gKey y_BS_sameRestAt w_BS_sameRestAt 3 1 := ⟨g_mem 223 (by decide +kernel) rfl, ⟨_, _, _, gCode_of _ _ _ _⟩, g_mem 1 (by decide +kernel) rfl, ⟨by decide, by decide⟩, by decide +kernel⟩
theorem ins_BS_sameRestAt : Cond.instanceMethod y_BS_sameRestAt ∈ gtb := g_mem 222 (by decide +kernel) rfl
theorem sel_BS_sameRestAt : Cond.selects y_BS_sameRestAt.cls y_BS_sameRestAt y_BS_sameRestAt ∈ gtb := g_memS 7 (by decide +kernel) rfl
abbrev w_BS_marksKept : Cond := .code y_BS_marksKept b_BS_marksKept 1 (some .int)
theorem key_BS_marksKept : gKey y_BS_marksKept w_BS_marksKept 1 0 := ⟨g_mem 243 (by decide +kernel) rfl, ⟨_, _, _, gCode_of _ _ _ _⟩, g_mem 1 (by decide +kernel) rfl, ⟨by decide, by decide⟩, by decide +kernel⟩
theorem ins_BS_marksKept : Cond.instanceMethod y_BS_marksKept ∈ gtb := g_mem 242 (by decide +kernel) rfl
theorem sel_BS_marksKept : Cond.selects y_BS_marksKept.cls y_BS_marksKept y_BS_marksKept ∈ gtb := g_memS 9 (by decide +kernel) rfl
abbrev w_BS_state : Cond := .code y_BS_state b_BS_state 1 (some .int)
theorem key_BS_state : gKey y_BS_state w_BS_state 1 0 := ⟨g_mem 250 (by decide +kernel) rfl, ⟨_, _, _, gCode_of _ _ _ _⟩, g_mem 1 (by decide +kernel) rfl, ⟨by decide, by decide⟩, by decide +kernel⟩
theorem ins_BS_state : Cond.instanceMethod y_BS_state ∈ gtb := g_mem 249 (by decide +kernel) rfl
theorem sel_BS_state : Cond.selects y_BS_state.cls y_BS_state y_BS_state ∈ gtb := g_memS 10 (by decide +kernel) rfl
abbrev w_Mo_init : Cond := .code y_Mo_init b_Mo_init 3 none
abbrev w_Mo_modulo : Cond := .code y_Mo_modulo b_Mo_modulo 2 (some .int)
theorem key_Mo_modulo : gKey y_Mo_modulo w_Mo_modulo 2 2 := ⟨g_mem 478 (by decide +kernel) rfl, ⟨_, _, _, gCode_of _ _ _ _⟩, g_mem 5 (by decide +kernel) rfl, ⟨by decide, by decide⟩, by decide +kernel⟩
theorem sta_Mo_modulo : Cond.static y_Mo_modulo ∈ gtb := g_mem 477 (by decide +kernel) rfl
abbrev w_Mo_thrown : Cond := .code y_Mo_thrown b_Mo_thrown 1 (some .int)
theorem key_Mo_thrown : gKey y_Mo_thrown w_Mo_thrown 1 0 := ⟨g_mem 528 (by decide +kernel) rfl, ⟨_, _, _, gCode_of _ _ _ _⟩, g_mem 5 (by decide +kernel) rfl, ⟨by decide, by decide⟩, by decide +kernel⟩
theorem ins_Mo_thrown : Cond.instanceMethod y_Mo_thrown ∈ gtb := g_mem 526 (by decide +kernel) rfl
theorem sel_Mo_thrown : Cond.selects y_Mo_thrown.cls y_Mo_thrown y_Mo_thrown ∈ gtb := g_mem 527 (by decide +kernel) rfl
abbrev w_Mo_fail : Cond := .code y_Mo_fail b_Mo_fail 2 (some .int)
theorem key_Mo_fail : gKey y_Mo_fail w_Mo_fail 2 1 := ⟨g_mem 539 (by decide +kernel) rfl, ⟨_, _, _, gCode_of _ _ _ _⟩, g_mem 5 (by decide +kernel) rfl, ⟨by decide, by decide⟩, by decide +kernel⟩
theorem ins_Mo_fail : Cond.instanceMethod y_Mo_fail ∈ gtb := g_mem 538 (by decide +kernel) rfl
theorem sel_Mo_fail : Cond.selects y_Mo_fail.cls y_Mo_fail y_Mo_fail ∈ gtb := g_memS 16 (by decide +kernel) rfl
abbrev w_Mo_within : Cond := .code y_Mo_within b_Mo_within 3 (some .boolean)
theorem key_Mo_within : gKey y_Mo_within w_Mo_within 3 3 := ⟨g_mem 535 (by decide +kernel) rfl, ⟨_, _, _, gCode_of _ _ _ _⟩, g_mem 5 (by decide +kernel) rfl, ⟨by decide, by decide⟩, by decide +kernel⟩
theorem sta_Mo_within : Cond.static y_Mo_within ∈ gtb := g_mem 534 (by decide +kernel) rfl
abbrev w_Mo_slot : Cond := .code y_Mo_slot b_Mo_slot 1 (some .int)
theorem key_Mo_slot : gKey y_Mo_slot w_Mo_slot 1 1 := ⟨g_mem 562 (by decide +kernel) rfl, ⟨_, _, _, gCode_of _ _ _ _⟩, g_mem 5 (by decide +kernel) rfl, ⟨by decide, by decide⟩, by decide +kernel⟩
theorem sta_Mo_slot : Cond.static y_Mo_slot ∈ gtb := g_mem 561 (by decide +kernel) rfl
abbrev w_Mo_program : Cond := .code y_Mo_program b_Mo_program 4 (some .int)
theorem key_Mo_program : gKey y_Mo_program w_Mo_program 4 2 := ⟨g_mem 532 (by decide +kernel) rfl, ⟨_, _, _, gCode_of _ _ _ _⟩, g_mem 5 (by decide +kernel) rfl, ⟨by decide, by decide⟩, by decide +kernel⟩
theorem ins_Mo_program : Cond.instanceMethod y_Mo_program ∈ gtb := g_mem 530 (by decide +kernel) rfl
theorem sel_Mo_program : Cond.selects y_Mo_program.cls y_Mo_program y_Mo_program ∈ gtb := g_mem 531 (by decide +kernel) rfl
abbrev w_Mo_input : Cond := .code y_Mo_input b_Mo_input 2 (some .int)
theorem key_Mo_input : gKey y_Mo_input w_Mo_input 2 1 := ⟨g_mem 543 (by decide +kernel) rfl, ⟨_, _, _, gCode_of _ _ _ _⟩, g_mem 5 (by decide +kernel) rfl, ⟨by decide, by decide⟩, by decide +kernel⟩
theorem ins_Mo_input : Cond.instanceMethod y_Mo_input ∈ gtb := g_mem 541 (by decide +kernel) rfl
theorem sel_Mo_input : Cond.selects y_Mo_input.cls y_Mo_input y_Mo_input ∈ gtb := g_mem 542 (by decide +kernel) rfl
abbrev w_Mo_save : Cond := .code y_Mo_save b_Mo_save 2 none
theorem key_Mo_save : gKey y_Mo_save w_Mo_save 2 0 := ⟨g_mem 559 (by decide +kernel) rfl, ⟨_, _, _, gCode_of _ _ _ _⟩, g_mem 5 (by decide +kernel) rfl, ⟨by decide, by decide⟩, by decide +kernel⟩
theorem ins_Mo_save : Cond.instanceMethod y_Mo_save ∈ gtb := g_mem 558 (by decide +kernel) rfl
theorem sel_Mo_save : Cond.selects y_Mo_save.cls y_Mo_save y_Mo_save ∈ gtb := g_memS 18 (by decide +kernel) rfl
abbrev w_Mo_stateAt : Cond := .code y_Mo_stateAt b_Mo_stateAt 3 (some .int)
theorem key_Mo_stateAt : gKey y_Mo_stateAt w_Mo_stateAt 3 2 := ⟨g_mem 592 (by decide +kernel) rfl, ⟨_, _, _, gCode_of _ _ _ _⟩, g_mem 5 (by decide +kernel) rfl, ⟨by decide, by decide⟩, by decide +kernel⟩
theorem ins_Mo_stateAt : Cond.instanceMethod y_Mo_stateAt ∈ gtb := g_mem 591 (by decide +kernel) rfl
theorem sel_Mo_stateAt : Cond.selects y_Mo_stateAt.cls y_Mo_stateAt y_Mo_stateAt ∈ gtb := g_memS 23 (by decide +kernel) rfl
abbrev w_Mo_poke : Cond := .code y_Mo_poke b_Mo_poke 4 (some .int)
theorem key_Mo_poke : gKey y_Mo_poke w_Mo_poke 4 2 := ⟨g_mem 547 (by decide +kernel) rfl, ⟨_, _, _, gCode_of _ _ _ _⟩, g_mem 5 (by decide +kernel) rfl, ⟨by decide, by decide⟩, by decide +kernel⟩
theorem ins_Mo_poke : Cond.instanceMethod y_Mo_poke ∈ gtb := g_mem 545 (by decide +kernel) rfl
theorem sel_Mo_poke : Cond.selects y_Mo_poke.cls y_Mo_poke y_Mo_poke ∈ gtb := g_mem 546 (by decide +kernel) rfl
abbrev w_Mo_kindOf : Cond := .code y_Mo_kindOf b_Mo_kindOf 1 (some .int)
theorem key_Mo_kindOf : gKey y_Mo_kindOf w_Mo_kindOf 1 1 := ⟨g_mem 569 (by decide +kernel) rfl, ⟨_, _, _, gCode_of _ _ _ _⟩, g_mem 5 (by decide +kernel) rfl, ⟨by decide, by decide⟩, by decide +kernel⟩
theorem sta_Mo_kindOf : Cond.static y_Mo_kindOf ∈ gtb := g_mem 568 (by decide +kernel) rfl
abbrev w_Mo_result : Cond := .code y_Mo_result b_Mo_result 4 (some .int)
theorem key_Mo_result : gKey y_Mo_result w_Mo_result 4 4 := ⟨g_mem 572 (by decide +kernel) rfl, ⟨_, _, _, gCode_of _ _ _ _⟩, g_mem 5 (by decide +kernel) rfl, ⟨by decide, by decide⟩, by decide +kernel⟩
theorem sta_Mo_result : Cond.static y_Mo_result ∈ gtb := g_mem 571 (by decide +kernel) rfl
abbrev w_Mo_advance : Cond := .code y_Mo_advance b_Mo_advance 11 (some .boolean)
theorem key_Mo_advance : gKey y_Mo_advance w_Mo_advance 11 2 := ⟨g_mem 566 (by decide +kernel) rfl, ⟨_, _, _, gCode_of _ _ _ _⟩, g_mem 5 (by decide +kernel) rfl, ⟨by decide, by decide⟩, by decide +kernel⟩
theorem ins_Mo_advance : Cond.instanceMethod y_Mo_advance ∈ gtb := g_mem 565 (by decide +kernel) rfl
theorem sel_Mo_advance : Cond.selects y_Mo_advance.cls y_Mo_advance y_Mo_advance ∈ gtb := g_memS 19 (by decide +kernel) rfl
abbrev w_Mo_costOf : Cond := .code y_Mo_costOf b_Mo_costOf 3 (some .int)
theorem key_Mo_costOf : gKey y_Mo_costOf w_Mo_costOf 3 0 := ⟨g_mem 576 (by decide +kernel) rfl, ⟨_, _, _, gCode_of _ _ _ _⟩, g_mem 5 (by decide +kernel) rfl, ⟨by decide, by decide⟩, by decide +kernel⟩
theorem ins_Mo_costOf : Cond.instanceMethod y_Mo_costOf ∈ gtb := g_mem 575 (by decide +kernel) rfl
theorem sel_Mo_costOf : Cond.selects y_Mo_costOf.cls y_Mo_costOf y_Mo_costOf ∈ gtb := g_memS 20 (by decide +kernel) rfl
abbrev w_Mo_allCosts : Cond := .code y_Mo_allCosts b_Mo_allCosts 3 (some .int)
theorem key_Mo_allCosts : gKey y_Mo_allCosts w_Mo_allCosts 3 0 := ⟨g_mem 580 (by decide +kernel) rfl, ⟨_, _, _, gCode_of _ _ _ _⟩, g_mem 5 (by decide +kernel) rfl, ⟨by decide, by decide⟩, by decide +kernel⟩
theorem ins_Mo_allCosts : Cond.instanceMethod y_Mo_allCosts ∈ gtb := g_mem 579 (by decide +kernel) rfl
theorem sel_Mo_allCosts : Cond.selects y_Mo_allCosts.cls y_Mo_allCosts y_Mo_allCosts ∈ gtb := g_memS 21 (by decide +kernel) rfl
abbrev w_Mo_stepOnce : Cond := .code y_Mo_stepOnce b_Mo_stepOnce 2 (some .boolean)
theorem key_Mo_stepOnce : gKey y_Mo_stepOnce w_Mo_stepOnce 2 0 := ⟨g_mem 555 (by decide +kernel) rfl, ⟨_, _, _, gCode_of _ _ _ _⟩, g_mem 5 (by decide +kernel) rfl, ⟨by decide, by decide⟩, by decide +kernel⟩
theorem ins_Mo_stepOnce : Cond.instanceMethod y_Mo_stepOnce ∈ gtb := g_mem 554 (by decide +kernel) rfl
theorem sel_Mo_stepOnce : Cond.selects y_Mo_stepOnce.cls y_Mo_stepOnce y_Mo_stepOnce ∈ gtb := g_memS 17 (by decide +kernel) rfl
abbrev w_Mo_step : Cond := .code y_Mo_step b_Mo_step 3 (some .int)
theorem key_Mo_step : gKey y_Mo_step w_Mo_step 3 1 := ⟨g_mem 551 (by decide +kernel) rfl, ⟨_, _, _, gCode_of _ _ _ _⟩, g_mem 5 (by decide +kernel) rfl, ⟨by decide, by decide⟩, by decide +kernel⟩
theorem ins_Mo_step : Cond.instanceMethod y_Mo_step ∈ gtb := g_mem 549 (by decide +kernel) rfl
theorem sel_Mo_step : Cond.selects y_Mo_step.cls y_Mo_step y_Mo_step ∈ gtb := g_mem 550 (by decide +kernel) rfl
abbrev w_Mo_isKept : Cond := .code y_Mo_isKept b_Mo_isKept 2 (some .boolean)
theorem key_Mo_isKept : gKey y_Mo_isKept w_Mo_isKept 2 1 := ⟨g_mem 588 (by decide +kernel) rfl, ⟨_, _, _, gCode_of _ _ _ _⟩, g_mem 5 (by decide +kernel) rfl, ⟨by decide, by decide⟩, by decide +kernel⟩
theorem ins_Mo_isKept : Cond.instanceMethod y_Mo_isKept ∈ gtb := g_mem 587 (by decide +kernel) rfl
theorem sel_Mo_isKept : Cond.selects y_Mo_isKept.cls y_Mo_isKept y_Mo_isKept ∈ gtb := g_memS 22 (by decide +kernel) rfl
abbrev w_Mo_back : Cond := .code y_Mo_back b_Mo_back 4 (some .int)
theorem key_Mo_back : gKey y_Mo_back w_Mo_back 4 1 := ⟨g_mem 584 (by decide +kernel) rfl, ⟨_, _, _, gCode_of _ _ _ _⟩, g_mem 5 (by decide +kernel) rfl, ⟨by decide, by decide⟩, by decide +kernel⟩
theorem ins_Mo_back : Cond.instanceMethod y_Mo_back ∈ gtb := g_mem 582 (by decide +kernel) rfl
theorem sel_Mo_back : Cond.selects y_Mo_back.cls y_Mo_back y_Mo_back ∈ gtb := g_mem 583 (by decide +kernel) rfl
abbrev w_Mo_look : Cond := .code y_Mo_look b_Mo_look 3 (some .int)
theorem key_Mo_look : gKey y_Mo_look w_Mo_look 3 2 := ⟨g_mem 596 (by decide +kernel) rfl, ⟨_, _, _, gCode_of _ _ _ _⟩, g_mem 5 (by decide +kernel) rfl, ⟨by decide, by decide⟩, by decide +kernel⟩
theorem ins_Mo_look : Cond.instanceMethod y_Mo_look ∈ gtb := g_mem 594 (by decide +kernel) rfl
theorem sel_Mo_look : Cond.selects y_Mo_look.cls y_Mo_look y_Mo_look ∈ gtb := g_mem 595 (by decide +kernel) rfl
abbrev w_Mo_wrote : Cond := .code y_Mo_wrote b_Mo_wrote 3 (some .int)
theorem key_Mo_wrote : gKey y_Mo_wrote w_Mo_wrote 3 1 := ⟨g_mem 600 (by decide +kernel) rfl, ⟨_, _, _, gCode_of _ _ _ _⟩, g_mem 5 (by decide +kernel) rfl, ⟨by decide, by decide⟩, by decide +kernel⟩
theorem ins_Mo_wrote : Cond.instanceMethod y_Mo_wrote ∈ gtb := g_mem 598 (by decide +kernel) rfl
theorem sel_Mo_wrote : Cond.selects y_Mo_wrote.cls y_Mo_wrote y_Mo_wrote ∈ gtb := g_mem 599 (by decide +kernel) rfl
abbrev w_Mo_when : Cond := .code y_Mo_when b_Mo_when 5 (some .int)
theorem key_Mo_when : gKey y_Mo_when w_Mo_when 5 3 := ⟨g_mem 604 (by decide +kernel) rfl, ⟨_, _, _, gCode_of _ _ _ _⟩, g_mem 5 (by decide +kernel) rfl, ⟨by decide, by decide⟩, by decide +kernel⟩
theorem ins_Mo_when : Cond.instanceMethod y_Mo_when ∈ gtb := g_mem 602 (by decide +kernel) rfl
theorem sel_Mo_when : Cond.selects y_Mo_when.cls y_Mo_when y_Mo_when ∈ gtb := g_mem 603 (by decide +kernel) rfl
abbrev w_Mo_isSame : Cond := .code y_Mo_isSame b_Mo_isSame 4 (some .boolean)
theorem key_Mo_isSame : gKey y_Mo_isSame w_Mo_isSame 4 1 := ⟨g_mem 612 (by decide +kernel) rfl, ⟨_, _, _, gCode_of _ _ _ _⟩, g_mem 5 (by decide +kernel) rfl, ⟨by decide, by decide⟩, by decide +kernel⟩
theorem ins_Mo_isSame : Cond.instanceMethod y_Mo_isSame ∈ gtb := g_mem 611 (by decide +kernel) rfl
theorem sel_Mo_isSame : Cond.selects y_Mo_isSame.cls y_Mo_isSame y_Mo_isSame ∈ gtb := g_memS 24 (by decide +kernel) rfl
abbrev w_Mo_replay : Cond := .code y_Mo_replay b_Mo_replay 2 (some .int)
theorem key_Mo_replay : gKey y_Mo_replay w_Mo_replay 2 0 := ⟨g_mem 608 (by decide +kernel) rfl, ⟨_, _, _, gCode_of _ _ _ _⟩, g_mem 5 (by decide +kernel) rfl, ⟨by decide, by decide⟩, by decide +kernel⟩
theorem ins_Mo_replay : Cond.instanceMethod y_Mo_replay ∈ gtb := g_mem 606 (by decide +kernel) rfl
theorem sel_Mo_replay : Cond.selects y_Mo_replay.cls y_Mo_replay y_Mo_replay ∈ gtb := g_mem 607 (by decide +kernel) rfl
abbrev w_Mo_cost : Cond := .code y_Mo_cost b_Mo_cost 2 (some .int)
theorem key_Mo_cost : gKey y_Mo_cost w_Mo_cost 2 1 := ⟨g_mem 616 (by decide +kernel) rfl, ⟨_, _, _, gCode_of _ _ _ _⟩, g_mem 5 (by decide +kernel) rfl, ⟨by decide, by decide⟩, by decide +kernel⟩
theorem ins_Mo_cost : Cond.instanceMethod y_Mo_cost ∈ gtb := g_mem 614 (by decide +kernel) rfl
theorem sel_Mo_cost : Cond.selects y_Mo_cost.cls y_Mo_cost y_Mo_cost ∈ gtb := g_mem 615 (by decide +kernel) rfl
abbrev w_Mo_waits : Cond := .code y_Mo_waits b_Mo_waits 1 (some .boolean)
theorem key_Mo_waits : gKey y_Mo_waits w_Mo_waits 1 0 := ⟨g_mem 624 (by decide +kernel) rfl, ⟨_, _, _, gCode_of _ _ _ _⟩, g_mem 5 (by decide +kernel) rfl, ⟨by decide, by decide⟩, by decide +kernel⟩
theorem ins_Mo_waits : Cond.instanceMethod y_Mo_waits ∈ gtb := g_mem 623 (by decide +kernel) rfl
theorem sel_Mo_waits : Cond.selects y_Mo_waits.cls y_Mo_waits y_Mo_waits ∈ gtb := g_memS 25 (by decide +kernel) rfl
abbrev w_Mo_count : Cond := .code y_Mo_count b_Mo_count 4 (some .int)
theorem key_Mo_count : gKey y_Mo_count w_Mo_count 4 1 := ⟨g_mem 620 (by decide +kernel) rfl, ⟨_, _, _, gCode_of _ _ _ _⟩, g_mem 5 (by decide +kernel) rfl, ⟨by decide, by decide⟩, by decide +kernel⟩
theorem ins_Mo_count : Cond.instanceMethod y_Mo_count ∈ gtb := g_mem 618 (by decide +kernel) rfl
theorem sel_Mo_count : Cond.selects y_Mo_count.cls y_Mo_count y_Mo_count ∈ gtb := g_mem 619 (by decide +kernel) rfl
abbrev w_Ma_init : Cond := .code y_Ma_init b_Ma_init 1 none
abbrev w_Ma_copyFrom : Cond := .code y_Ma_copyFrom b_Ma_copyFrom 2 none
theorem key_Ma_copyFrom : gKey y_Ma_copyFrom w_Ma_copyFrom 2 1 := ⟨g_mem 162 (by decide +kernel) rfl, ⟨_, _, _, gCode_of _ _ _ _⟩, g_mem 2 (by decide +kernel) rfl, ⟨by decide, by decide⟩, by decide +kernel⟩
theorem ins_Ma_copyFrom : Cond.instanceMethod y_Ma_copyFrom ∈ gtb := g_mem 160 (by decide +kernel) rfl
theorem sel_Ma_copyFrom : Cond.selects y_Ma_copyFrom.cls y_Ma_copyFrom y_Ma_copyFrom ∈ gtb := g_mem 161 (by decide +kernel) rfl
abbrev w_Ma_rest : Cond := .code y_Ma_rest b_Ma_rest 2 (some .int)
theorem key_Ma_rest : gKey y_Ma_rest w_Ma_rest 2 1 := ⟨g_mem 227 (by decide +kernel) rfl, ⟨_, _, _, gCode_of _ _ _ _⟩, g_mem 2 (by decide +kernel) rfl, ⟨by decide, by decide⟩, by decide +kernel⟩
theorem ins_Ma_rest : Cond.instanceMethod y_Ma_rest ∈ gtb := g_mem 225 (by decide +kernel) rfl
theorem sel_Ma_rest : Cond.selects y_Ma_rest.cls y_Ma_rest y_Ma_rest ∈ gtb := g_mem 226 (by decide +kernel) rfl
abbrev w_Ma_wouldWait : Cond := .code y_Ma_wouldWait b_Ma_wouldWait 3 (some .boolean)
theorem key_Ma_wouldWait : gKey y_Ma_wouldWait w_Ma_wouldWait 3 2 := ⟨g_mem 184 (by decide +kernel) rfl, ⟨_, _, _, gCode_of _ _ _ _⟩, g_mem 2 (by decide +kernel) rfl, ⟨by decide, by decide⟩, by decide +kernel⟩
theorem ins_Ma_wouldWait : Cond.instanceMethod y_Ma_wouldWait ∈ gtb := g_mem 182 (by decide +kernel) rfl
theorem sel_Ma_wouldWait : Cond.selects y_Ma_wouldWait.cls y_Ma_wouldWait y_Ma_wouldWait ∈ gtb := g_mem 183 (by decide +kernel) rfl
abbrev w_Ma_advance : Cond := .code y_Ma_advance b_Ma_advance 6 (some .boolean)
theorem key_Ma_advance : gKey y_Ma_advance w_Ma_advance 6 3 := ⟨g_mem 180 (by decide +kernel) rfl, ⟨_, _, _, gCode_of _ _ _ _⟩, g_mem 2 (by decide +kernel) rfl, ⟨by decide, by decide⟩, by decide +kernel⟩
theorem ins_Ma_advance : Cond.instanceMethod y_Ma_advance ∈ gtb := g_mem 178 (by decide +kernel) rfl
theorem sel_Ma_advance : Cond.selects y_Ma_advance.cls y_Ma_advance y_Ma_advance ∈ gtb := g_mem 179 (by decide +kernel) rfl
abbrev w_Ma_rememberBefore : Cond := .code y_Ma_rememberBefore b_Ma_rememberBefore 1 none
theorem key_Ma_rememberBefore : gKey y_Ma_rememberBefore w_Ma_rememberBefore 1 0 := ⟨g_mem 188 (by decide +kernel) rfl, ⟨_, _, _, gCode_of _ _ _ _⟩, g_mem 2 (by decide +kernel) rfl, ⟨by decide, by decide⟩, by decide +kernel⟩
theorem ins_Ma_rememberBefore : Cond.instanceMethod y_Ma_rememberBefore ∈ gtb := g_mem 187 (by decide +kernel) rfl
theorem sel_Ma_rememberBefore : Cond.selects y_Ma_rememberBefore.cls y_Ma_rememberBefore y_Ma_rememberBefore ∈ gtb := g_memS 1 (by decide +kernel) rfl
abbrev w_Ma_moveNumbers : Cond := .code y_Ma_moveNumbers b_Ma_moveNumbers 6 none
theorem key_Ma_moveNumbers : gKey y_Ma_moveNumbers w_Ma_moveNumbers 6 2 := ⟨g_mem 199 (by decide +kernel) rfl, ⟨_, _, _, gCode_of _ _ _ _⟩, g_mem 2 (by decide +kernel) rfl, ⟨by decide, by decide⟩, by decide +kernel⟩
theorem ins_Ma_moveNumbers : Cond.instanceMethod y_Ma_moveNumbers ∈ gtb := g_mem 198 (by decide +kernel) rfl
theorem sel_Ma_moveNumbers : Cond.selects y_Ma_moveNumbers.cls y_Ma_moveNumbers y_Ma_moveNumbers ∈ gtb := g_memS 3 (by decide +kernel) rfl
abbrev w_Ma_compute : Cond := .code y_Ma_compute b_Ma_compute 6 none
theorem key_Ma_compute : gKey y_Ma_compute w_Ma_compute 6 2 := ⟨g_mem 203 (by decide +kernel) rfl, ⟨_, _, _, gCode_of _ _ _ _⟩, g_mem 2 (by decide +kernel) rfl, ⟨by decide, by decide⟩, by decide +kernel⟩
theorem ins_Ma_compute : Cond.instanceMethod y_Ma_compute ∈ gtb := g_mem 202 (by decide +kernel) rfl
theorem sel_Ma_compute : Cond.selects y_Ma_compute.cls y_Ma_compute y_Ma_compute ∈ gtb := g_memS 4 (by decide +kernel) rfl
abbrev w_Ma_register : Cond := .code y_Ma_register b_Ma_register 2 (some .int)
theorem key_Ma_register : gKey y_Ma_register w_Ma_register 2 2 := ⟨g_mem 191 (by decide +kernel) rfl, ⟨_, _, _, gCode_of _ _ _ _⟩, g_mem 2 (by decide +kernel) rfl, ⟨by decide, by decide⟩, by decide +kernel⟩
theorem sta_Ma_register : Cond.static y_Ma_register ∈ gtb := g_mem 190 (by decide +kernel) rfl
abbrev w_Ma_write : Cond := .code y_Ma_write b_Ma_write 3 none
theorem key_Ma_write : gKey y_Ma_write w_Ma_write 3 2 := ⟨g_mem 195 (by decide +kernel) rfl, ⟨_, _, _, gCode_of _ _ _ _⟩, g_mem 2 (by decide +kernel) rfl, ⟨by decide, by decide⟩, by decide +kernel⟩
theorem ins_Ma_write : Cond.instanceMethod y_Ma_write ∈ gtb := g_mem 194 (by decide +kernel) rfl
theorem sel_Ma_write : Cond.selects y_Ma_write.cls y_Ma_write y_Ma_write ∈ gtb := g_memS 2 (by decide +kernel) rfl
abbrev w_Ma_stop : Cond := .code y_Ma_stop b_Ma_stop 2 none
theorem key_Ma_stop : gKey y_Ma_stop w_Ma_stop 2 1 := ⟨g_mem 207 (by decide +kernel) rfl, ⟨_, _, _, gCode_of _ _ _ _⟩, g_mem 2 (by decide +kernel) rfl, ⟨by decide, by decide⟩, by decide +kernel⟩
theorem ins_Ma_stop : Cond.instanceMethod y_Ma_stop ∈ gtb := g_mem 206 (by decide +kernel) rfl
theorem sel_Ma_stop : Cond.selects y_Ma_stop.cls y_Ma_stop y_Ma_stop ∈ gtb := g_memS 5 (by decide +kernel) rfl
abbrev w_Ma_changedNothingBut : Cond := .code y_Ma_changedNothingBut b_Ma_changedNothingBut 2 (some .boolean)
theorem key_Ma_changedNothingBut : gKey y_Ma_changedNothingBut w_Ma_changedNothingBut 2 1 := ⟨g_mem 215 (by decide +kernel) rfl, ⟨_, _, _, gCode_of _ _ _ _⟩, g_mem 2 (by decide +kernel) rfl, ⟨by decide, by decide⟩, by decide +kernel⟩
theorem ins_Ma_changedNothingBut : Cond.instanceMethod y_Ma_changedNothingBut ∈ gtb := g_mem 213 (by decide +kernel) rfl
theorem sel_Ma_changedNothingBut : Cond.selects y_Ma_changedNothingBut.cls y_Ma_changedNothingBut y_Ma_changedNothingBut ∈ gtb := g_mem 214 (by decide +kernel) rfl
abbrev w_Ma_changedNumber : Cond := .code y_Ma_changedNumber b_Ma_changedNumber 1 (some .boolean)
theorem key_Ma_changedNumber : gKey y_Ma_changedNumber w_Ma_changedNumber 1 0 := ⟨g_mem 219 (by decide +kernel) rfl, ⟨_, _, _, gCode_of _ _ _ _⟩, g_mem 2 (by decide +kernel) rfl, ⟨by decide, by decide⟩, by decide +kernel⟩
theorem ins_Ma_changedNumber : Cond.instanceMethod y_Ma_changedNumber ∈ gtb := g_mem 218 (by decide +kernel) rfl
theorem sel_Ma_changedNumber : Cond.selects y_Ma_changedNumber.cls y_Ma_changedNumber y_Ma_changedNumber ∈ gtb := g_memS 6 (by decide +kernel) rfl
abbrev w_Ma_costOfLatest : Cond := .code y_Ma_costOfLatest b_Ma_costOfLatest 2 (some .int)
theorem key_Ma_costOfLatest : gKey y_Ma_costOfLatest w_Ma_costOfLatest 2 0 := ⟨g_mem 402 (by decide +kernel) rfl, ⟨_, _, _, gCode_of _ _ _ _⟩, g_mem 2 (by decide +kernel) rfl, ⟨by decide, by decide⟩, by decide +kernel⟩
theorem ins_Ma_costOfLatest : Cond.instanceMethod y_Ma_costOfLatest ∈ gtb := g_mem 400 (by decide +kernel) rfl
theorem sel_Ma_costOfLatest : Cond.selects y_Ma_costOfLatest.cls y_Ma_costOfLatest y_Ma_costOfLatest ∈ gtb := g_mem 401 (by decide +kernel) rfl
abbrev w_Ro_init : Cond := .code y_Ro_init b_Ro_init 2 none
abbrev w_Ro_slot : Cond := .code y_Ro_slot b_Ro_slot 1 (some .int)
theorem key_Ro_slot : gKey y_Ro_slot w_Ro_slot 1 1 := ⟨g_mem 172 (by decide +kernel) rfl, ⟨_, _, _, gCode_of _ _ _ _⟩, g_mem 3 (by decide +kernel) rfl, ⟨by decide, by decide⟩, by decide +kernel⟩
theorem sta_Ro_slot : Cond.static y_Ro_slot ∈ gtb := g_mem 171 (by decide +kernel) rfl
abbrev w_Ro_keep : Cond := .code y_Ro_keep b_Ro_keep 4 none
theorem key_Ro_keep : gKey y_Ro_keep w_Ro_keep 4 1 := ⟨g_mem 398 (by decide +kernel) rfl, ⟨_, _, _, gCode_of _ _ _ _⟩, g_mem 3 (by decide +kernel) rfl, ⟨by decide, by decide⟩, by decide +kernel⟩
theorem ins_Ro_keep : Cond.instanceMethod y_Ro_keep ∈ gtb := g_mem 396 (by decide +kernel) rfl
theorem sel_Ro_keep : Cond.selects y_Ro_keep.cls y_Ro_keep y_Ro_keep ∈ gtb := g_mem 397 (by decide +kernel) rfl
abbrev w_Ro_dropOldest : Cond := .code y_Ro_dropOldest b_Ro_dropOldest 1 none
theorem key_Ro_dropOldest : gKey y_Ro_dropOldest w_Ro_dropOldest 1 0 := ⟨g_mem 406 (by decide +kernel) rfl, ⟨_, _, _, gCode_of _ _ _ _⟩, g_mem 3 (by decide +kernel) rfl, ⟨by decide, by decide⟩, by decide +kernel⟩
theorem ins_Ro_dropOldest : Cond.instanceMethod y_Ro_dropOldest ∈ gtb := g_mem 405 (by decide +kernel) rfl
theorem sel_Ro_dropOldest : Cond.selects y_Ro_dropOldest.cls y_Ro_dropOldest y_Ro_dropOldest ∈ gtb := g_memS 13 (by decide +kernel) rfl
abbrev w_Ro_dropAll : Cond := .code y_Ro_dropAll b_Ro_dropAll 1 none
theorem key_Ro_dropAll : gKey y_Ro_dropAll w_Ro_dropAll 1 0 := ⟨g_mem 370 (by decide +kernel) rfl, ⟨_, _, _, gCode_of _ _ _ _⟩, g_mem 3 (by decide +kernel) rfl, ⟨by decide, by decide⟩, by decide +kernel⟩
theorem ins_Ro_dropAll : Cond.instanceMethod y_Ro_dropAll ∈ gtb := g_mem 368 (by decide +kernel) rfl
theorem sel_Ro_dropAll : Cond.selects y_Ro_dropAll.cls y_Ro_dropAll y_Ro_dropAll ∈ gtb := g_mem 369 (by decide +kernel) rfl
abbrev w_Ro_forgetBehind : Cond := .code y_Ro_forgetBehind b_Ro_forgetBehind 2 none
theorem key_Ro_forgetBehind : gKey y_Ro_forgetBehind w_Ro_forgetBehind 2 1 := ⟨g_mem 422 (by decide +kernel) rfl, ⟨_, _, _, gCode_of _ _ _ _⟩, g_mem 3 (by decide +kernel) rfl, ⟨by decide, by decide⟩, by decide +kernel⟩
theorem ins_Ro_forgetBehind : Cond.instanceMethod y_Ro_forgetBehind ∈ gtb := g_mem 420 (by decide +kernel) rfl
theorem sel_Ro_forgetBehind : Cond.selects y_Ro_forgetBehind.cls y_Ro_forgetBehind y_Ro_forgetBehind ∈ gtb := g_mem 421 (by decide +kernel) rfl
abbrev w_Ro_undoDownTo : Cond := .code y_Ro_undoDownTo b_Ro_undoDownTo 4 none
theorem key_Ro_undoDownTo : gKey y_Ro_undoDownTo w_Ro_undoDownTo 4 2 := ⟨g_mem 169 (by decide +kernel) rfl, ⟨_, _, _, gCode_of _ _ _ _⟩, g_mem 3 (by decide +kernel) rfl, ⟨by decide, by decide⟩, by decide +kernel⟩
theorem ins_Ro_undoDownTo : Cond.instanceMethod y_Ro_undoDownTo ∈ gtb := g_mem 167 (by decide +kernel) rfl
theorem sel_Ro_undoDownTo : Cond.selects y_Ro_undoDownTo.cls y_Ro_undoDownTo y_Ro_undoDownTo ∈ gtb := g_mem 168 (by decide +kernel) rfl
abbrev w_Ro_undo : Cond := .code y_Ro_undo b_Ro_undo 3 none
theorem key_Ro_undo : gKey y_Ro_undo w_Ro_undo 3 2 := ⟨g_mem 176 (by decide +kernel) rfl, ⟨_, _, _, gCode_of _ _ _ _⟩, g_mem 3 (by decide +kernel) rfl, ⟨by decide, by decide⟩, by decide +kernel⟩
theorem ins_Ro_undo : Cond.instanceMethod y_Ro_undo ∈ gtb := g_mem 175 (by decide +kernel) rfl
theorem sel_Ro_undo : Cond.selects y_Ro_undo.cls y_Ro_undo y_Ro_undo ∈ gtb := g_memS 0 (by decide +kernel) rfl
abbrev w_Ro_costOf : Cond := .code y_Ro_costOf b_Ro_costOf 2 (some .int)
theorem key_Ro_costOf : gKey y_Ro_costOf w_Ro_costOf 2 1 := ⟨g_mem 468 (by decide +kernel) rfl, ⟨_, _, _, gCode_of _ _ _ _⟩, g_mem 3 (by decide +kernel) rfl, ⟨by decide, by decide⟩, by decide +kernel⟩
theorem ins_Ro_costOf : Cond.instanceMethod y_Ro_costOf ∈ gtb := g_mem 466 (by decide +kernel) rfl
theorem sel_Ro_costOf : Cond.selects y_Ro_costOf.cls y_Ro_costOf y_Ro_costOf ∈ gtb := g_mem 467 (by decide +kernel) rfl
abbrev w_Ro_writtenBy : Cond := .code y_Ro_writtenBy b_Ro_writtenBy 2 (some .int)
theorem key_Ro_writtenBy : gKey y_Ro_writtenBy w_Ro_writtenBy 2 1 := ⟨g_mem 449 (by decide +kernel) rfl, ⟨_, _, _, gCode_of _ _ _ _⟩, g_mem 3 (by decide +kernel) rfl, ⟨by decide, by decide⟩, by decide +kernel⟩
theorem ins_Ro_writtenBy : Cond.instanceMethod y_Ro_writtenBy ∈ gtb := g_mem 447 (by decide +kernel) rfl
theorem sel_Ro_writtenBy : Cond.selects y_Ro_writtenBy.cls y_Ro_writtenBy y_Ro_writtenBy ∈ gtb := g_mem 448 (by decide +kernel) rfl
abbrev w_Ro_numberBefore : Cond := .code y_Ro_numberBefore b_Ro_numberBefore 5 (some .int)
theorem key_Ro_numberBefore : gKey y_Ro_numberBefore w_Ro_numberBefore 5 3 := ⟨g_mem 438 (by decide +kernel) rfl, ⟨_, _, _, gCode_of _ _ _ _⟩, g_mem 3 (by decide +kernel) rfl, ⟨by decide, by decide⟩, by decide +kernel⟩
theorem ins_Ro_numberBefore : Cond.instanceMethod y_Ro_numberBefore ∈ gtb := g_mem 436 (by decide +kernel) rfl
theorem sel_Ro_numberBefore : Cond.selects y_Ro_numberBefore.cls y_Ro_numberBefore y_Ro_numberBefore ∈ gtb := g_mem 437 (by decide +kernel) rfl
abbrev w_Ro_restBefore : Cond := .code y_Ro_restBefore b_Ro_restBefore 4 (some .int)
theorem key_Ro_restBefore : gKey y_Ro_restBefore w_Ro_restBefore 4 2 := ⟨g_mem 235 (by decide +kernel) rfl, ⟨_, _, _, gCode_of _ _ _ _⟩, g_mem 3 (by decide +kernel) rfl, ⟨by decide, by decide⟩, by decide +kernel⟩
theorem ins_Ro_restBefore : Cond.instanceMethod y_Ro_restBefore ∈ gtb := g_mem 233 (by decide +kernel) rfl
theorem sel_Ro_restBefore : Cond.selects y_Ro_restBefore.cls y_Ro_restBefore y_Ro_restBefore ∈ gtb := g_mem 234 (by decide +kernel) rfl
abbrev w_Ro_sameNumbersBehind : Cond := .code y_Ro_sameNumbersBehind b_Ro_sameNumbersBehind 5 (some .boolean)
theorem key_Ro_sameNumbersBehind : gKey y_Ro_sameNumbersBehind w_Ro_sameNumbersBehind 5 2 := ⟨g_mem 211 (by decide +kernel) rfl, ⟨_, _, _, gCode_of _ _ _ _⟩, g_mem 3 (by decide +kernel) rfl, ⟨by decide, by decide⟩, by decide +kernel⟩
theorem ins_Ro_sameNumbersBehind : Cond.instanceMethod y_Ro_sameNumbersBehind ∈ gtb := g_mem 209 (by decide +kernel) rfl
theorem sel_Ro_sameNumbersBehind : Cond.selects y_Ro_sameNumbersBehind.cls y_Ro_sameNumbersBehind y_Ro_sameNumbersBehind ∈ gtb := g_mem 210 (by decide +kernel) rfl
abbrev w_La_cell : Cond := .code y_La_cell b_La_cell 2 (some .int)
theorem key_La_cell : gKey y_La_cell w_La_cell 2 2 := ⟨g_mem 254 (by decide +kernel) rfl, ⟨_, _, _, gCode_of _ _ _ _⟩, g_mem 0 (by decide +kernel) rfl, ⟨by decide, by decide⟩, by decide +kernel⟩
theorem sta_La_cell : Cond.static y_La_cell ∈ gtb := g_mem 253 (by decide +kernel) rfl
abbrev w_La_program : Cond := .codeWith y_La_program b_La_program 5 (some .int) [(0, 10, 13, 13)]
theorem key_La_program : gKey y_La_program w_La_program 5 4 := ⟨g_mem 257 (by decide +kernel) rfl, ⟨_, _, _, gCode_with _ _ _ _ _⟩, g_mem 0 (by decide +kernel) rfl, ⟨by decide, by decide⟩, by decide +kernel⟩
theorem sta_La_program : Cond.static y_La_program ∈ gtb := g_mem 256 (by decide +kernel) rfl
abbrev w_La_input : Cond := .codeWith y_La_input b_La_input 4 (some .int) [(0, 9, 12, 19)]
theorem key_La_input : gKey y_La_input w_La_input 4 3 := ⟨g_mem 333 (by decide +kernel) rfl, ⟨_, _, _, gCode_with _ _ _ _ _⟩, g_mem 0 (by decide +kernel) rfl, ⟨by decide, by decide⟩, by decide +kernel⟩
theorem sta_La_input : Cond.static y_La_input ∈ gtb := g_mem 332 (by decide +kernel) rfl
abbrev w_La_poke : Cond := .codeWith y_La_poke b_La_poke 5 (some .int) [(0, 10, 13, 13)]
theorem key_La_poke : gKey y_La_poke w_La_poke 5 4 := ⟨g_mem 357 (by decide +kernel) rfl, ⟨_, _, _, gCode_with _ _ _ _ _⟩, g_mem 0 (by decide +kernel) rfl, ⟨by decide, by decide⟩, by decide +kernel⟩
theorem sta_La_poke : Cond.static y_La_poke ∈ gtb := g_mem 356 (by decide +kernel) rfl
abbrev w_La_step : Cond := .codeWith y_La_step b_La_step 4 (some .int) [(0, 9, 12, 27)]
theorem key_La_step : gKey y_La_step w_La_step 4 3 := ⟨g_mem 373 (by decide +kernel) rfl, ⟨_, _, _, gCode_with _ _ _ _ _⟩, g_mem 0 (by decide +kernel) rfl, ⟨by decide, by decide⟩, by decide +kernel⟩
theorem sta_La_step : Cond.static y_La_step ∈ gtb := g_mem 372 (by decide +kernel) rfl
abbrev w_La_back : Cond := .codeWith y_La_back b_La_back 4 (some .int) [(0, 9, 12, 27)]
theorem key_La_back : gKey y_La_back w_La_back 4 3 := ⟨g_mem 409 (by decide +kernel) rfl, ⟨_, _, _, gCode_with _ _ _ _ _⟩, g_mem 0 (by decide +kernel) rfl, ⟨by decide, by decide⟩, by decide +kernel⟩
theorem sta_La_back : Cond.static y_La_back ∈ gtb := g_mem 408 (by decide +kernel) rfl
abbrev w_La_look : Cond := .codeWith y_La_look b_La_look 5 (some .int) [(0, 10, 13, 27), (0, 10, 17, 13)]
theorem key_La_look : gKey y_La_look w_La_look 5 4 := ⟨g_mem 425 (by decide +kernel) rfl, ⟨_, _, _, gCode_with _ _ _ _ _⟩, g_mem 0 (by decide +kernel) rfl, ⟨by decide, by decide⟩, by decide +kernel⟩
theorem sta_La_look : Cond.static y_La_look ∈ gtb := g_mem 424 (by decide +kernel) rfl
abbrev w_La_wrote : Cond := .codeWith y_La_wrote b_La_wrote 4 (some .int) [(0, 9, 12, 13)]
theorem key_La_wrote : gKey y_La_wrote w_La_wrote 4 3 := ⟨g_mem 441 (by decide +kernel) rfl, ⟨_, _, _, gCode_with _ _ _ _ _⟩, g_mem 0 (by decide +kernel) rfl, ⟨by decide, by decide⟩, by decide +kernel⟩
theorem sta_La_wrote : Cond.static y_La_wrote ∈ gtb := g_mem 440 (by decide +kernel) rfl
abbrev w_La_when : Cond := .codeWith y_La_when b_La_when 6 (some .int) [(0, 12, 15, 27), (0, 12, 19, 13)]
theorem key_La_when : gKey y_La_when w_La_when 6 5 := ⟨g_mem 452 (by decide +kernel) rfl, ⟨_, _, _, gCode_with _ _ _ _ _⟩, g_mem 0 (by decide +kernel) rfl, ⟨by decide, by decide⟩, by decide +kernel⟩
theorem sta_La_when : Cond.static y_La_when ∈ gtb := g_mem 451 (by decide +kernel) rfl
abbrev w_La_cost : Cond := .codeWith y_La_cost b_La_cost 4 (some .int) [(0, 9, 12, 27)]
theorem key_La_cost : gKey y_La_cost w_La_cost 4 3 := ⟨g_mem 459 (by decide +kernel) rfl, ⟨_, _, _, gCode_with _ _ _ _ _⟩, g_mem 0 (by decide +kernel) rfl, ⟨by decide, by decide⟩, by decide +kernel⟩
theorem sta_La_cost : Cond.static y_La_cost ∈ gtb := g_mem 458 (by decide +kernel) rfl
abbrev w_Mt_floorMod : Cond := .code y_Mt_floorMod b_Mt_floorMod 3 (some .int)
theorem key_Mt_floorMod : gKey y_Mt_floorMod w_Mt_floorMod 3 2 := ⟨g_mem 84 (by decide +kernel) rfl, ⟨_, _, _, gCode_of _ _ _ _⟩, g_mem 4 (by decide +kernel) rfl, ⟨by decide, by decide⟩, by decide +kernel⟩
theorem sta_Mt_floorMod : Cond.static y_Mt_floorMod ∈ gtb := g_mem 83 (by decide +kernel) rfl
abbrev w_Mt_floorDiv : Cond := .code y_Mt_floorDiv b_Mt_floorDiv 3 (some .int)
theorem key_Mt_floorDiv : gKey y_Mt_floorDiv w_Mt_floorDiv 3 2 := ⟨g_mem 246 (by decide +kernel) rfl, ⟨_, _, _, gCode_of _ _ _ _⟩, g_mem 4 (by decide +kernel) rfl, ⟨by decide, by decide⟩, by decide +kernel⟩
theorem sta_Mt_floorDiv : Cond.static y_Mt_floorDiv ∈ gtb := g_mem 245 (by decide +kernel) rfl
theorem ml_BS_28 : Cond.methodLink R_BS 28 y_Mt_floorMod ∈ gtb := g_mem 82 (by decide +kernel) rfl
theorem ml_BS_63 : Cond.methodLink R_BS 63 y_BS_checkNumber ∈ gtb := g_mem 362 (by decide +kernel) rfl
theorem ml_BS_69 : Cond.methodLink R_BS 69 y_Ro_dropAll ∈ gtb := g_mem 367 (by decide +kernel) rfl
theorem ml_BS_77 : Cond.methodLink R_BS 77 y_Ma_advance ∈ gtb := g_mem 177 (by decide +kernel) rfl
theorem ml_BS_81 : Cond.methodLink R_BS 81 y_Ro_keep ∈ gtb := g_mem 395 (by decide +kernel) rfl
theorem ml_BS_85 : Cond.methodLink R_BS 85 y_BS_checkTime ∈ gtb := g_mem 414 (by decide +kernel) rfl
theorem ml_BS_91 : Cond.methodLink R_BS 91 y_Ro_undoDownTo ∈ gtb := g_mem 166 (by decide +kernel) rfl
theorem ml_BS_95 : Cond.methodLink R_BS 95 y_Ro_forgetBehind ∈ gtb := g_mem 419 (by decide +kernel) rfl
theorem ml_BS_100 : Cond.methodLink R_BS 100 y_BS_numberAt ∈ gtb := g_mem 431 (by decide +kernel) rfl
theorem ml_BS_103 : Cond.methodLink R_BS 103 y_BS_restAt ∈ gtb := g_mem 228 (by decide +kernel) rfl
theorem ml_BS_109 : Cond.methodLink R_BS 109 y_Ro_writtenBy ∈ gtb := g_mem 446 (by decide +kernel) rfl
theorem ml_BS_113 : Cond.methodLink R_BS 113 y_Ro_numberBefore ∈ gtb := g_mem 435 (by decide +kernel) rfl
theorem ml_BS_117 : Cond.methodLink R_BS 117 y_Ma_copyFrom ∈ gtb := g_mem 159 (by decide +kernel) rfl
theorem ml_BS_120 : Cond.methodLink R_BS 120 y_Ro_sameNumbersBehind ∈ gtb := g_mem 208 (by decide +kernel) rfl
theorem ml_BS_124 : Cond.methodLink R_BS 124 y_BS_sameRestAt ∈ gtb := g_mem 220 (by decide +kernel) rfl
theorem ml_BS_130 : Cond.methodLink R_BS 130 y_Ro_costOf ∈ gtb := g_mem 465 (by decide +kernel) rfl
theorem ml_BS_139 : Cond.methodLink R_BS 139 y_BS_marksKept ∈ gtb := g_mem 240 (by decide +kernel) rfl
theorem ml_BS_143 : Cond.methodLink R_BS 143 y_BS_state ∈ gtb := g_mem 247 (by decide +kernel) rfl
theorem ml_BS_150 : Cond.methodLink R_BS 150 y_Ma_rest ∈ gtb := g_mem 224 (by decide +kernel) rfl
theorem ml_BS_153 : Cond.methodLink R_BS 153 y_Ro_restBefore ∈ gtb := g_mem 232 (by decide +kernel) rfl
theorem ml_BS_156 : Cond.methodLink R_BS 156 y_Mt_floorDiv ∈ gtb := g_mem 244 (by decide +kernel) rfl
theorem ml_BS_159 : Cond.methodLink R_BS 159 y_Ma_wouldWait ∈ gtb := g_mem 251 (by decide +kernel) rfl
theorem ml_Ma_40 : Cond.methodLink R_Ma 40 y_Ma_wouldWait ∈ gtb := g_mem 181 (by decide +kernel) rfl
theorem ml_Ma_44 : Cond.methodLink R_Ma 44 y_Ma_rememberBefore ∈ gtb := g_mem 185 (by decide +kernel) rfl
theorem ml_Ma_47 : Cond.methodLink R_Ma 47 y_Ma_register ∈ gtb := g_mem 189 (by decide +kernel) rfl
theorem ml_Ma_51 : Cond.methodLink R_Ma 51 y_Ma_write ∈ gtb := g_mem 192 (by decide +kernel) rfl
theorem ml_Ma_55 : Cond.methodLink R_Ma 55 y_Ma_moveNumbers ∈ gtb := g_mem 196 (by decide +kernel) rfl
theorem ml_Ma_58 : Cond.methodLink R_Ma 58 y_Ma_compute ∈ gtb := g_mem 200 (by decide +kernel) rfl
theorem ml_Ma_73 : Cond.methodLink R_Ma 73 y_Ma_stop ∈ gtb := g_mem 204 (by decide +kernel) rfl
theorem ml_Ma_80 : Cond.methodLink R_Ma 80 y_Ma_changedNumber ∈ gtb := g_mem 216 (by decide +kernel) rfl
theorem ml_Ro_40 : Cond.methodLink R_Ro 40 y_Ma_costOfLatest ∈ gtb := g_mem 399 (by decide +kernel) rfl
theorem ml_Ro_55 : Cond.methodLink R_Ro 55 y_Ro_dropOldest ∈ gtb := g_mem 403 (by decide +kernel) rfl
theorem ml_Ro_58 : Cond.methodLink R_Ro 58 y_Ro_slot ∈ gtb := g_mem 170 (by decide +kernel) rfl
theorem ml_Ro_85 : Cond.methodLink R_Ro 85 y_Ro_undo ∈ gtb := g_mem 173 (by decide +kernel) rfl
theorem ml_Ro_103 : Cond.methodLink R_Ro 103 y_Ma_changedNothingBut ∈ gtb := g_mem 212 (by decide +kernel) rfl
theorem ml_La_7 : Cond.methodLink R_La 7 y_BS_program ∈ gtb := g_mem 259 (by decide +kernel) rfl
theorem ml_La_15 : Cond.methodLink R_La 15 y_BS_input ∈ gtb := g_mem 335 (by decide +kernel) rfl
theorem ml_La_21 : Cond.methodLink R_La 21 y_BS_poke ∈ gtb := g_mem 358 (by decide +kernel) rfl
theorem ml_La_24 : Cond.methodLink R_La 24 y_BS_step ∈ gtb := g_mem 375 (by decide +kernel) rfl
theorem ml_La_29 : Cond.methodLink R_La 29 y_BS_back ∈ gtb := g_mem 410 (by decide +kernel) rfl
theorem ml_La_32 : Cond.methodLink R_La 32 y_BS_look ∈ gtb := g_mem 426 (by decide +kernel) rfl
theorem ml_La_35 : Cond.methodLink R_La 35 y_BS_wrote ∈ gtb := g_mem 442 (by decide +kernel) rfl
theorem ml_La_38 : Cond.methodLink R_La 38 y_BS_when ∈ gtb := g_mem 453 (by decide +kernel) rfl
theorem ml_La_42 : Cond.methodLink R_La 42 y_BS_cost ∈ gtb := g_mem 460 (by decide +kernel) rfl
theorem ml_La_45 : Cond.methodLink R_La 45 y_La_cell ∈ gtb := g_mem 252 (by decide +kernel) rfl
theorem ml_La_57 : Cond.methodLink R_La 57 y_La_program ∈ gtb := g_mem 255 (by decide +kernel) rfl
theorem ml_La_60 : Cond.methodLink R_La 60 y_Mo_program ∈ gtb := g_mem 529 (by decide +kernel) rfl
theorem ml_La_61 : Cond.methodLink R_La 61 y_Mo_thrown ∈ gtb := g_mem 525 (by decide +kernel) rfl
theorem ml_La_65 : Cond.methodLink R_La 65 y_La_input ∈ gtb := g_mem 331 (by decide +kernel) rfl
theorem ml_La_68 : Cond.methodLink R_La 68 y_Mo_input ∈ gtb := g_mem 540 (by decide +kernel) rfl
theorem ml_La_69 : Cond.methodLink R_La 69 y_La_poke ∈ gtb := g_mem 355 (by decide +kernel) rfl
theorem ml_La_71 : Cond.methodLink R_La 71 y_Mo_poke ∈ gtb := g_mem 544 (by decide +kernel) rfl
theorem ml_La_72 : Cond.methodLink R_La 72 y_La_step ∈ gtb := g_mem 371 (by decide +kernel) rfl
theorem ml_La_74 : Cond.methodLink R_La 74 y_Mo_step ∈ gtb := g_mem 548 (by decide +kernel) rfl
theorem ml_La_75 : Cond.methodLink R_La 75 y_La_back ∈ gtb := g_mem 407 (by decide +kernel) rfl
theorem ml_La_77 : Cond.methodLink R_La 77 y_Mo_back ∈ gtb := g_mem 581 (by decide +kernel) rfl
theorem ml_La_78 : Cond.methodLink R_La 78 y_La_look ∈ gtb := g_mem 423 (by decide +kernel) rfl
theorem ml_La_80 : Cond.methodLink R_La 80 y_Mo_look ∈ gtb := g_mem 593 (by decide +kernel) rfl
theorem ml_La_81 : Cond.methodLink R_La 81 y_La_wrote ∈ gtb := g_mem 439 (by decide +kernel) rfl
theorem ml_La_83 : Cond.methodLink R_La 83 y_Mo_wrote ∈ gtb := g_mem 597 (by decide +kernel) rfl
theorem ml_La_84 : Cond.methodLink R_La 84 y_La_when ∈ gtb := g_mem 450 (by decide +kernel) rfl
theorem ml_La_87 : Cond.methodLink R_La 87 y_Mo_when ∈ gtb := g_mem 601 (by decide +kernel) rfl
theorem ml_La_88 : Cond.methodLink R_La 88 y_BS_replay ∈ gtb := g_mem 155 (by decide +kernel) rfl
theorem ml_La_91 : Cond.methodLink R_La 91 y_Mo_replay ∈ gtb := g_mem 605 (by decide +kernel) rfl
theorem ml_La_92 : Cond.methodLink R_La 92 y_La_cost ∈ gtb := g_mem 457 (by decide +kernel) rfl
theorem ml_La_94 : Cond.methodLink R_La 94 y_Mo_cost ∈ gtb := g_mem 613 (by decide +kernel) rfl
theorem ml_La_95 : Cond.methodLink R_La 95 y_BS_count ∈ gtb := g_mem 236 (by decide +kernel) rfl
theorem ml_La_98 : Cond.methodLink R_La 98 y_Mo_count ∈ gtb := g_mem 617 (by decide +kernel) rfl
theorem ml_Mo_32 : Cond.methodLink R_Mo 32 y_Mo_modulo ∈ gtb := g_mem 476 (by decide +kernel) rfl
theorem ml_Mo_46 : Cond.methodLink R_Mo 46 y_Mo_within ∈ gtb := g_mem 533 (by decide +kernel) rfl
theorem ml_Mo_50 : Cond.methodLink R_Mo 50 y_Mo_fail ∈ gtb := g_mem 536 (by decide +kernel) rfl
theorem ml_Mo_60 : Cond.methodLink R_Mo 60 y_Mo_slot ∈ gtb := g_mem 560 (by decide +kernel) rfl
theorem ml_Mo_69 : Cond.methodLink R_Mo 69 y_Mo_kindOf ∈ gtb := g_mem 567 (by decide +kernel) rfl
theorem ml_Mo_75 : Cond.methodLink R_Mo 75 y_Mo_result ∈ gtb := g_mem 570 (by decide +kernel) rfl
theorem ml_Mo_79 : Cond.methodLink R_Mo 79 y_Mo_save ∈ gtb := g_mem 556 (by decide +kernel) rfl
theorem ml_Mo_82 : Cond.methodLink R_Mo 82 y_Mo_advance ∈ gtb := g_mem 563 (by decide +kernel) rfl
theorem ml_Mo_86 : Cond.methodLink R_Mo 86 y_Mo_costOf ∈ gtb := g_mem 573 (by decide +kernel) rfl
theorem ml_Mo_90 : Cond.methodLink R_Mo 90 y_Mo_allCosts ∈ gtb := g_mem 577 (by decide +kernel) rfl
theorem ml_Mo_93 : Cond.methodLink R_Mo 93 y_Mo_stepOnce ∈ gtb := g_mem 552 (by decide +kernel) rfl
theorem ml_Mo_97 : Cond.methodLink R_Mo 97 y_Mo_isKept ∈ gtb := g_mem 585 (by decide +kernel) rfl
theorem ml_Mo_101 : Cond.methodLink R_Mo 101 y_Mo_stateAt ∈ gtb := g_mem 589 (by decide +kernel) rfl
theorem ml_Mo_104 : Cond.methodLink R_Mo 104 y_Mo_isSame ∈ gtb := g_mem 609 (by decide +kernel) rfl
theorem ml_Mo_107 : Cond.methodLink R_Mo 107 y_Mo_waits ∈ gtb := g_mem 621 (by decide +kernel) rfl
theorem fl_BS_9 : Cond.fieldLink R_BS 9 "BackSteps" "program" "[I" ∈ gtb := g_mem 134 (by decide +kernel) rfl
theorem fl_BS_13 : Cond.fieldLink R_BS 13 "BackSteps" "inputs" "[I" ∈ gtb := g_mem 135 (by decide +kernel) rfl
theorem fl_BS_19 : Cond.fieldLink R_BS 19 "BackSteps" "machine" "LBackSteps$Machine;" ∈ gtb := g_mem 137 (by decide +kernel) rfl
theorem fl_BS_23 : Cond.fieldLink R_BS 23 "BackSteps" "again" "LBackSteps$Machine;" ∈ gtb := g_mem 138 (by decide +kernel) rfl
theorem fl_BS_37 : Cond.fieldLink R_BS 37 "BackSteps" "rows" "LBackSteps$Rows;" ∈ gtb := g_mem 139 (by decide +kernel) rfl
theorem fl_BS_41 : Cond.fieldLink R_BS 41 "BackSteps" "markDistance" "I" ∈ gtb := g_mem 133 (by decide +kernel) rfl
theorem fl_BS_52 : Cond.fieldLink R_BS 52 "BackSteps" "given" "I" ∈ gtb := g_mem 136 (by decide +kernel) rfl
theorem fl_BS_60 : Cond.fieldLink R_BS 60 "BackSteps$Machine" "taken" "I" ∈ gtb := g_mem 33 (by decide +kernel) rfl
theorem fl_BS_66 : Cond.fieldLink R_BS 66 "BackSteps$Machine" "numbers" "[I" ∈ gtb := g_mem 29 (by decide +kernel) rfl
theorem fl_BS_88 : Cond.fieldLink R_BS 88 "BackSteps$Rows" "now" "I" ∈ gtb := g_mem 91 (by decide +kernel) rfl
theorem fl_BS_106 : Cond.fieldLink R_BS 106 "BackSteps$Rows" "oldest" "I" ∈ gtb := g_mem 93 (by decide +kernel) rfl
theorem fl_BS_133 : Cond.fieldLink R_BS 133 "BackSteps$Rows" "spent" "I" ∈ gtb := g_mem 95 (by decide +kernel) rfl
theorem fl_BS_136 : Cond.fieldLink R_BS 136 "BackSteps$Rows" "gone" "I" ∈ gtb := g_mem 97 (by decide +kernel) rfl
theorem fl_BS_163 : Cond.fieldLink R_BS 163 "BackSteps$Machine" "halted" "I" ∈ gtb := g_mem 41 (by decide +kernel) rfl
theorem fl_Ma_9 : Cond.fieldLink R_Ma 9 "BackSteps$Machine" "numbers" "[I" ∈ gtb := g_mem 27 (by decide +kernel) rfl
theorem fl_Ma_15 : Cond.fieldLink R_Ma 15 "BackSteps$Machine" "halted" "I" ∈ gtb := g_mem 39 (by decide +kernel) rfl
theorem fl_Ma_19 : Cond.fieldLink R_Ma 19 "BackSteps$Machine" "written" "I" ∈ gtb := g_mem 42 (by decide +kernel) rfl
theorem fl_Ma_28 : Cond.fieldLink R_Ma 28 "BackSteps$Machine" "place" "I" ∈ gtb := g_mem 30 (by decide +kernel) rfl
theorem fl_Ma_31 : Cond.fieldLink R_Ma 31 "BackSteps$Machine" "taken" "I" ∈ gtb := g_mem 32 (by decide +kernel) rfl
theorem fl_Ma_34 : Cond.fieldLink R_Ma 34 "BackSteps$Machine" "outputs" "I" ∈ gtb := g_mem 35 (by decide +kernel) rfl
theorem fl_Ma_37 : Cond.fieldLink R_Ma 37 "BackSteps$Machine" "sum" "I" ∈ gtb := g_mem 37 (by decide +kernel) rfl
theorem fl_Ma_61 : Cond.fieldLink R_Ma 61 "BackSteps$Machine" "placeBefore" "I" ∈ gtb := g_mem 47 (by decide +kernel) rfl
theorem fl_Ma_64 : Cond.fieldLink R_Ma 64 "BackSteps$Machine" "takenBefore" "I" ∈ gtb := g_mem 49 (by decide +kernel) rfl
theorem fl_Ma_67 : Cond.fieldLink R_Ma 67 "BackSteps$Machine" "outputsBefore" "I" ∈ gtb := g_mem 51 (by decide +kernel) rfl
theorem fl_Ma_70 : Cond.fieldLink R_Ma 70 "BackSteps$Machine" "sumBefore" "I" ∈ gtb := g_mem 53 (by decide +kernel) rfl
theorem fl_Ma_77 : Cond.fieldLink R_Ma 77 "BackSteps$Machine" "numberBefore" "I" ∈ gtb := g_mem 45 (by decide +kernel) rfl
theorem fl_Ro_11 : Cond.fieldLink R_Ro 11 "BackSteps$Rows" "costs" "[I" ∈ gtb := g_mem 98 (by decide +kernel) rfl
theorem fl_Ro_15 : Cond.fieldLink R_Ro 15 "BackSteps$Rows" "written" "[I" ∈ gtb := g_mem 99 (by decide +kernel) rfl
theorem fl_Ro_18 : Cond.fieldLink R_Ro 18 "BackSteps$Rows" "numbersBefore" "[I" ∈ gtb := g_mem 100 (by decide +kernel) rfl
theorem fl_Ro_21 : Cond.fieldLink R_Ro 21 "BackSteps$Rows" "numbersBehind" "[I" ∈ gtb := g_mem 101 (by decide +kernel) rfl
theorem fl_Ro_24 : Cond.fieldLink R_Ro 24 "BackSteps$Rows" "places" "[I" ∈ gtb := g_mem 102 (by decide +kernel) rfl
theorem fl_Ro_27 : Cond.fieldLink R_Ro 27 "BackSteps$Rows" "takens" "[I" ∈ gtb := g_mem 103 (by decide +kernel) rfl
theorem fl_Ro_30 : Cond.fieldLink R_Ro 30 "BackSteps$Rows" "outputs" "[I" ∈ gtb := g_mem 104 (by decide +kernel) rfl
theorem fl_Ro_33 : Cond.fieldLink R_Ro 33 "BackSteps$Rows" "sums" "[I" ∈ gtb := g_mem 105 (by decide +kernel) rfl
theorem fl_Ro_36 : Cond.fieldLink R_Ro 36 "BackSteps$Rows" "room" "I" ∈ gtb := g_mem 89 (by decide +kernel) rfl
theorem fl_Ro_46 : Cond.fieldLink R_Ro 46 "BackSteps$Rows" "oldest" "I" ∈ gtb := g_mem 92 (by decide +kernel) rfl
theorem fl_Ro_49 : Cond.fieldLink R_Ro 49 "BackSteps$Rows" "now" "I" ∈ gtb := g_mem 90 (by decide +kernel) rfl
theorem fl_Ro_52 : Cond.fieldLink R_Ro 52 "BackSteps$Rows" "spent" "I" ∈ gtb := g_mem 94 (by decide +kernel) rfl
theorem fl_Ro_62 : Cond.fieldLink R_Ro 62 "BackSteps$Machine" "written" "I" ∈ gtb := g_mem 43 (by decide +kernel) rfl
theorem fl_Ro_64 : Cond.fieldLink R_Ro 64 "BackSteps$Machine" "numberBefore" "I" ∈ gtb := g_mem 44 (by decide +kernel) rfl
theorem fl_Ro_67 : Cond.fieldLink R_Ro 67 "BackSteps$Machine" "numbers" "[I" ∈ gtb := g_mem 28 (by decide +kernel) rfl
theorem fl_Ro_70 : Cond.fieldLink R_Ro 70 "BackSteps$Machine" "placeBefore" "I" ∈ gtb := g_mem 46 (by decide +kernel) rfl
theorem fl_Ro_73 : Cond.fieldLink R_Ro 73 "BackSteps$Machine" "takenBefore" "I" ∈ gtb := g_mem 48 (by decide +kernel) rfl
theorem fl_Ro_76 : Cond.fieldLink R_Ro 76 "BackSteps$Machine" "outputsBefore" "I" ∈ gtb := g_mem 50 (by decide +kernel) rfl
theorem fl_Ro_79 : Cond.fieldLink R_Ro 79 "BackSteps$Machine" "sumBefore" "I" ∈ gtb := g_mem 52 (by decide +kernel) rfl
theorem fl_Ro_82 : Cond.fieldLink R_Ro 82 "BackSteps$Rows" "gone" "I" ∈ gtb := g_mem 96 (by decide +kernel) rfl
theorem fl_Ro_89 : Cond.fieldLink R_Ro 89 "BackSteps$Machine" "place" "I" ∈ gtb := g_mem 31 (by decide +kernel) rfl
theorem fl_Ro_92 : Cond.fieldLink R_Ro 92 "BackSteps$Machine" "taken" "I" ∈ gtb := g_mem 34 (by decide +kernel) rfl
theorem fl_Ro_95 : Cond.fieldLink R_Ro 95 "BackSteps$Machine" "outputs" "I" ∈ gtb := g_mem 36 (by decide +kernel) rfl
theorem fl_Ro_97 : Cond.fieldLink R_Ro 97 "BackSteps$Machine" "sum" "I" ∈ gtb := g_mem 38 (by decide +kernel) rfl
theorem fl_Ro_100 : Cond.fieldLink R_Ro 100 "BackSteps$Machine" "halted" "I" ∈ gtb := g_mem 40 (by decide +kernel) rfl
theorem fl_Mo_7 : Cond.fieldLink R_Mo 7 "BackStepsModel" "program" "[I" ∈ gtb := g_mem 482 (by decide +kernel) rfl
theorem fl_Mo_13 : Cond.fieldLink R_Mo 13 "BackStepsModel" "input" "[I" ∈ gtb := g_mem 484 (by decide +kernel) rfl
theorem fl_Mo_16 : Cond.fieldLink R_Mo 16 "BackStepsModel" "now" "[I" ∈ gtb := g_mem 485 (by decide +kernel) rfl
theorem fl_Mo_19 : Cond.fieldLink R_Mo 19 "BackStepsModel" "other" "[I" ∈ gtb := g_mem 486 (by decide +kernel) rfl
theorem fl_Mo_23 : Cond.fieldLink R_Mo 23 "BackStepsModel" "states" "[I" ∈ gtb := g_mem 487 (by decide +kernel) rfl
theorem fl_Mo_26 : Cond.fieldLink R_Mo 26 "BackStepsModel" "costs" "[I" ∈ gtb := g_mem 488 (by decide +kernel) rfl
theorem fl_Mo_29 : Cond.fieldLink R_Mo 29 "BackStepsModel" "writes" "[I" ∈ gtb := g_mem 489 (by decide +kernel) rfl
theorem fl_Mo_36 : Cond.fieldLink R_Mo 36 "BackStepsModel" "room" "I" ∈ gtb := g_mem 480 (by decide +kernel) rfl
theorem fl_Mo_40 : Cond.fieldLink R_Mo 40 "BackStepsModel" "every" "I" ∈ gtb := g_mem 481 (by decide +kernel) rfl
theorem fl_Mo_43 : Cond.fieldLink R_Mo 43 "BackStepsModel" "thrown" "I" ∈ gtb := g_mem 479 (by decide +kernel) rfl
theorem fl_Mo_54 : Cond.fieldLink R_Mo 54 "BackStepsModel" "inputs" "I" ∈ gtb := g_mem 483 (by decide +kernel) rfl
theorem fl_Mo_57 : Cond.fieldLink R_Mo 57 "BackStepsModel" "time" "I" ∈ gtb := g_mem 490 (by decide +kernel) rfl
theorem fl_Mo_63 : Cond.fieldLink R_Mo 63 "BackStepsModel" "went" "I" ∈ gtb := g_mem 492 (by decide +kernel) rfl
theorem fl_Mo_66 : Cond.fieldLink R_Mo 66 "BackStepsModel" "oldest" "I" ∈ gtb := g_mem 491 (by decide +kernel) rfl
theorem fl_Mo_72 : Cond.fieldLink R_Mo 72 "BackStepsModel" "written" "I" ∈ gtb := g_mem 493 (by decide +kernel) rfl
end
section
/-- the same for the JDK's own methods -/
theorem g_bodyF {l : Launch} {y : MethodName} {wy : Cond} {rm : Room} {av : (Nat → Nat) → List Value} {G : gT} {O : Int64} {o : gO} {G' : gT} {O' : Int64} {cc : ByteArray} {maxL : Nat} {ret : Option FieldType} {tb : List ExceptionTableEntry}
    (hy : plainFor y = true) (hw : gCode wy y cc maxL ret tb) (hlen : ∀ ad, (lg_sl (av ad)).length ≤ maxL)
    (body : ∀ (p : Program) (e : Env) (s0 s : State) (m : MethodId) (args : Array Value) (below : List Frame) (meth : Method) (c : Code) (D : va_G) (cI cL : ClassId) (ad : Nat → Nat), CallFix p m c cc maxL s args gtb y.cls → meth.sig.returnType = ret → meth.locks = false → c.exceptionTable.toList = tb → gB s0 s D cI cL ad G O s.heap [] →
      ∀ ls : Array Slot, lv_has ls maxL (lv_args 0 (av ad)) → W p l e rm s m args below meth c s.heap [] 0 0 (gE s0 below args s D cI cL ad rm.cells rm.slots o G' O') (F0 m 0 ls [])) : gMet l y wy rm av G O o G' O' := by
  intro s0 D cI cL ad sz
  refine MetFree.of_bodySF (code := cc) (maxLocals := maxL) (ret := ret) hy ?_ ?_
  · intro args s m h hn
    obtain ⟨m', meth, c, hn', h1, h2, h3, h4, h5, h6, -, -⟩ := hw args s (atoms_spec (ws := [wy]) h _ List.mem_cons_self)
    cases hn.symm.trans hn'
    exact ⟨meth, c, h1, h2, h3, h4, h5, h6⟩
  · intro p e s m args below meth c s₁ B hml hPP _
    obtain ⟨rfl, rfl, hP, hK, hD, hX⟩ := hPP
    have X0 : Stand p l e (headSpec [wy] rm).room s m (av ad).toArray below meth c s₁ [] 0 0 := Stand.of_body B
    obtain ⟨m', meth', c', hn', h1, h2, h3, h4, h5, h6, h7, -⟩ := hw (av ad).toArray s (atoms_spec (ws := [wy]) B.pre _ List.mem_cons_self)
    cases B.named.symm.trans hn'
    cases B.method.symm.trans h1
    cases X0.code.symm.trans h2
    have hh0 : s₁.heap = s.heap := by rw [B.state]; rfl
    have hC : CallFix p m c cc maxL s (av ad).toArray gtb y.cls := ⟨B.exec, B.bytes, hml, findClass_of_methodNamed B.named, g_word hX⟩
    have hl := lv_entry (av ad) (n := maxL) (hlen ad)
    have K := body p e s0 s m (av ad).toArray below meth c D cI cL ad hC B.returns B.notSynchronized h7 ⟨hP, hK, hD, va_S.rf, hX⟩ _ hl
    obtain ⟨t, a1, oc, b1, b2, b3⟩ := K s₁ hh0 X0
    refine ⟨t, oc, ?_, b1, b2, b3⟩
    rw [lg_entry_eq]
    exact a1
end
section
abbrev g_ush (x y : Int32) : Int32 := (x.toUInt32 >>> (y.toUInt32 &&& Int32.toUInt32 31)).toInt32
abbrev rm_Ma_register : Room := { frames := 0, cells := 0, slots := 0, locals := 0 }
def f_Ma_register (G : gT) (p0 : Int32) (p1 : Int32) : Int32 := (g_ush p0 p1) &&& 7
set_option maxHeartbeats 4000000 in
set_option maxRecDepth 100000 in
theorem c_Ma_register (l : Launch) (G : gT) (p0 : Int32) (p1 : Int32) (O : Int64) : gMet l y_Ma_register w_Ma_register rm_Ma_register (fun ad => [.int p0, .int p1]) G O (.inl (some (.int (f_Ma_register G p0 p1)))) G O := by
  refine g_body (by decide) (gCode_of _ _ _ _) (fun ad => by simp [lg_sl, Value.category]) ?_
  intro p e s0 s m args below meth c D cI cL ad hC hr hlk htb hB ls hl
  have hC : CallFix p m c b_Ma_register 2 s args gtb R_Ma := hC
  have hl : lv_has ls 2 [(0, .int p0), (1, .int p1)] := hl
  have hx := hC.1
  have hb := hC.2.1
  have hf : f_Ma_register G p0 p1 = (g_ush p0 p1) &&& 7 := rfl
  refine lv_iload_n hx hb d_Ma_register_0 rfl (lv_at hl 0 rfl) ?_
  refine lv_iload_n hx hb d_Ma_register_1 rfl (lv_at hl 1 rfl) ?_
  refine lv_iushr (v := g_ush p0 p1) hx hb d_Ma_register_2 rfl ?_
  refine lv_bipush (v := 7) hx hb d_Ma_register_3 (by decide) ?_
  refine lv_iand hx hb d_Ma_register_5 ?_
  exact g_iret hC hB hr hlk (by decide) (by decide) (by rw [hf]) rfl d_Ma_register_6
abbrev rm_Ma_write_3 : Room := { frames := 0, cells := 0, slots := 0, locals := 0 }
def f_Ma_write_3 (G : gT) (p1 : Int32) (p2 : Int32) : gT := (g_up (g_up (g_up G 3 6 p1) 3 7 (G 4 p1.toNatClampNeg)) 4 p1.toNatClampNeg p2)
def ok_Ma_write_3 (G : gT) (p1 : Int32) (p2 : Int32) : Prop := (vp_in p1 264 ∧ (vp_in p1 264 ∧ True))
set_option maxHeartbeats 4000000 in
set_option maxRecDepth 100000 in
theorem c_Ma_write_3 (l : Launch) (G : gT) (p1 : Int32) (p2 : Int32) (O : Int64) (hok : ok_Ma_write_3 G p1 p2) : gMet l y_Ma_write w_Ma_write rm_Ma_write_3 (fun ad => [.ref (ad 3), .int p1, .int p2]) G O (.inl (none)) (f_Ma_write_3 G p1 p2) O := by
  refine g_body (by decide) (gCode_of _ _ _ _) (fun ad => by simp [lg_sl, Value.category]) ?_
  intro p e s0 s m args below meth c D cI cL ad hC hr hlk htb hB ls hl
  have hC : CallFix p m c b_Ma_write 3 s args gtb R_Ma := hC
  have hl : lv_has ls 3 [(0, .ref (ad 3)), (1, .int p1), (2, .int p2)] := hl
  have hx := hC.1
  have hb := hC.2.1
  have hf : f_Ma_write_3 G p1 p2 = (g_up (g_up (g_up G 3 6 p1) 3 7 (G 4 p1.toNatClampNeg)) 4 p1.toNatClampNeg p2) := rfl
  have hok : (vp_in p1 264 ∧ (vp_in p1 264 ∧ True)) := hok
  refine lv_aload_n hx hb d_Ma_write_0 rfl (lv_at hl 0 rfl) ?_
  refine lv_iload_n hx hb d_Ma_write_1 rfl (lv_at hl 1 rfl) ?_
  refine gp_3_6 hC hB fl_Ma_19 d_Ma_write_2 (fun H locs hB => ?_)
  refine lv_aload_n hx hb d_Ma_write_5 rfl (lv_at hl 0 rfl) ?_
  refine lv_aload_n hx hb d_Ma_write_6 rfl (lv_at hl 0 rfl) ?_
  refine gr_3_0 hC hB fl_Ma_9 d_Ma_write_7 ?_
  refine lv_iload_n hx hb d_Ma_write_10 rfl (lv_at hl 1 rfl) ?_
  refine ga_4 (x := (G 4 p1.toNatClampNeg)) hC hB hok.1 rfl d_Ma_write_11 ?_
  have hok := hok.2
  refine gp_3_7 hC hB fl_Ma_77 d_Ma_write_12 (fun H locs hB => ?_)
  refine lv_aload_n hx hb d_Ma_write_15 rfl (lv_at hl 0 rfl) ?_
  refine gr_3_0 hC hB fl_Ma_9 d_Ma_write_16 ?_
  refine lv_iload_n hx hb d_Ma_write_19 rfl (lv_at hl 1 rfl) ?_
  refine lv_iload_n hx hb d_Ma_write_20 rfl (lv_at hl 2 rfl) ?_
  refine gs_4 hC hB hok.1 d_Ma_write_21 (fun H locs hB => ?_)
  have hok := hok.2
  exact g_vret hC hB hr hlk (by decide) (by decide) rfl hf d_Ma_write_22
abbrev rm_Ma_stop_3 : Room := { frames := 0, cells := 0, slots := 0, locals := 0 }
def f_Ma_stop_3 (G : gT) (p1 : Int32) : gT := (g_up (g_up G 3 5 p1) 3 1 (G 3 8))
set_option maxHeartbeats 4000000 in
set_option maxRecDepth 100000 in
theorem c_Ma_stop_3 (l : Launch) (G : gT) (p1 : Int32) (O : Int64) : gMet l y_Ma_stop w_Ma_stop rm_Ma_stop_3 (fun ad => [.ref (ad 3), .int p1]) G O (.inl (none)) (f_Ma_stop_3 G p1) O := by
  refine g_body (by decide) (gCode_of _ _ _ _) (fun ad => by simp [lg_sl, Value.category]) ?_
  intro p e s0 s m args below meth c D cI cL ad hC hr hlk htb hB ls hl
  have hC : CallFix p m c b_Ma_stop 2 s args gtb R_Ma := hC
  have hl : lv_has ls 2 [(0, .ref (ad 3)), (1, .int p1)] := hl
  have hx := hC.1
  have hb := hC.2.1
  have hf : f_Ma_stop_3 G p1 = (g_up (g_up G 3 5 p1) 3 1 (G 3 8)) := rfl
  refine lv_aload_n hx hb d_Ma_stop_0 rfl (lv_at hl 0 rfl) ?_
  refine lv_iload_n hx hb d_Ma_stop_1 rfl (lv_at hl 1 rfl) ?_
  refine gp_3_5 hC hB fl_Ma_15 d_Ma_stop_2 (fun H locs hB => ?_)
  refine lv_aload_n hx hb d_Ma_stop_5 rfl (lv_at hl 0 rfl) ?_
  refine lv_aload_n hx hb d_Ma_stop_6 rfl (lv_at hl 0 rfl) ?_
  refine gg_3_8 (x := (G 3 8)) hC hB rfl fl_Ma_61 d_Ma_stop_7 ?_
  refine gp_3_1 hC hB fl_Ma_28 d_Ma_stop_10 (fun H locs hB => ?_)
  exact g_vret hC hB hr hlk (by decide) (by decide) rfl hf d_Ma_stop_13
abbrev rm_Ma_rest_3 : Room := { frames := 0, cells := 0, slots := 0, locals := 0 }
def f_Ma_rest_3 (G : gT) (p1 : Int32) : Int32 := (if p1 = 264 then (G 3 1) else (if p1 = 265 then (G 3 2) else (if p1 = 266 then (G 3 3) else (if p1 = 267 then (G 3 4) else (G 3 5)))))
set_option maxHeartbeats 4000000 in
set_option maxRecDepth 100000 in
theorem c_Ma_rest_3 (l : Launch) (G : gT) (p1 : Int32) (O : Int64) : gMet l y_Ma_rest w_Ma_rest rm_Ma_rest_3 (fun ad => [.ref (ad 3), .int p1]) G O (.inl (some (.int (f_Ma_rest_3 G p1)))) G O := by
  refine g_body (by decide) (gCode_of _ _ _ _) (fun ad => by simp [lg_sl, Value.category]) ?_
  intro p e s0 s m args below meth c D cI cL ad hC hr hlk htb hB ls hl
  have hC : CallFix p m c b_Ma_rest 2 s args gtb R_Ma := hC
  have hl : lv_has ls 2 [(0, .ref (ad 3)), (1, .int p1)] := hl
  have hx := hC.1
  have hb := hC.2.1
  have hf : f_Ma_rest_3 G p1 = (if p1 = 264 then (G 3 1) else (if p1 = 265 then (G 3 2) else (if p1 = 266 then (G 3 3) else (if p1 = 267 then (G 3 4) else (G 3 5))))) := rfl
  refine lv_iload_n hx hb d_Ma_rest_0 rfl (lv_at hl 1 rfl) ?_
  by_cases c1 : p1 = 264
  · have hf := hf.trans (if_pos c1)
    refine g_switch (tgt := 32) hC d_Ma_rest_1 (fun i hi => by show i < 4; omega) (by rw [c1]; decide) ?_
    refine lv_aload_n hx hb d_Ma_rest_32 rfl (lv_at hl 0 rfl) ?_
    refine gg_3_1 (x := (G 3 1)) hC hB rfl fl_Ma_28 d_Ma_rest_33 ?_
    exact g_iret hC hB hr hlk (by decide) (by decide) (by rw [hf]) rfl d_Ma_rest_36
  · have hf := hf.trans (if_neg c1)
    by_cases c2 : p1 = 265
    · have hf := hf.trans (if_pos c2)
      refine g_switch (tgt := 37) hC d_Ma_rest_1 (fun i hi => by show i < 4; omega) (by rw [c2]; decide) ?_
      refine lv_aload_n hx hb d_Ma_rest_37 rfl (lv_at hl 0 rfl) ?_
      refine gg_3_2 (x := (G 3 2)) hC hB rfl fl_Ma_31 d_Ma_rest_38 ?_
      exact g_iret hC hB hr hlk (by decide) (by decide) (by rw [hf]) rfl d_Ma_rest_41
    · have hf := hf.trans (if_neg c2)
      by_cases c3 : p1 = 266
      · have hf := hf.trans (if_pos c3)
        refine g_switch (tgt := 42) hC d_Ma_rest_1 (fun i hi => by show i < 4; omega) (by rw [c3]; decide) ?_
        refine lv_aload_n hx hb d_Ma_rest_42 rfl (lv_at hl 0 rfl) ?_
        refine gg_3_3 (x := (G 3 3)) hC hB rfl fl_Ma_34 d_Ma_rest_43 ?_
        exact g_iret hC hB hr hlk (by decide) (by decide) (by rw [hf]) rfl d_Ma_rest_46
      · have hf := hf.trans (if_neg c3)
        by_cases c4 : p1 = 267
        · have hf := hf.trans (if_pos c4)
          refine g_switch (tgt := 47) hC d_Ma_rest_1 (fun i hi => by show i < 4; omega) (by rw [c4]; decide) ?_
          refine lv_aload_n hx hb d_Ma_rest_47 rfl (lv_at hl 0 rfl) ?_
          refine gg_3_4 (x := (G 3 4)) hC hB rfl fl_Ma_37 d_Ma_rest_48 ?_
          exact g_iret hC hB hr hlk (by decide) (by decide) (by rw [hf]) rfl d_Ma_rest_51
        · have hf := hf.trans (if_neg c4)
          refine g_switch (tgt := 52) hC d_Ma_rest_1 (fun i hi => by show i < 4; omega) ?_ ?_
          · have e0 := g_ne (k := 264) c1 (by decide)
            have e1 := g_ne (k := 265) c2 (by decide)
            have e2 := g_ne (k := 266) c3 (by decide)
            have e3 := g_ne (k := 267) c4 (by decide)
            have e : (p1).toInt < 264 ∨ 267 < (p1).toInt := by omega
            generalize (p1).toInt = z at e ⊢
            rcases e with e | e
            · rw [g_swt, if_pos (by omega)]; decide
            · rw [g_swt, if_pos (by omega)]; decide
          · refine lv_aload_n hx hb d_Ma_rest_52 rfl (lv_at hl 0 rfl) ?_
            refine gg_3_5 (x := (G 3 5)) hC hB rfl fl_Ma_15 d_Ma_rest_53 ?_
            exact g_iret hC hB hr hlk (by decide) (by decide) (by rw [hf]) rfl d_Ma_rest_56
abbrev rm_Ma_rememberBefore_3 : Room := { frames := 0, cells := 0, slots := 0, locals := 0 }
def f_Ma_rememberBefore_3 (G : gT) : gT := (g_up (g_up (g_up (g_up (g_up G 3 6 (-1)) 3 8 (G 3 1)) 3 9 (G 3 2)) 3 10 (G 3 3)) 3 11 (G 3 4))
set_option maxHeartbeats 4000000 in
set_option maxRecDepth 100000 in
theorem c_Ma_rememberBefore_3 (l : Launch) (G : gT) (O : Int64) : gMet l y_Ma_rememberBefore w_Ma_rememberBefore rm_Ma_rememberBefore_3 (fun ad => [.ref (ad 3)]) G O (.inl (none)) (f_Ma_rememberBefore_3 G) O := by
  refine g_body (by decide) (gCode_of _ _ _ _) (fun ad => by simp [lg_sl, Value.category]) ?_
  intro p e s0 s m args below meth c D cI cL ad hC hr hlk htb hB ls hl
  have hC : CallFix p m c b_Ma_rememberBefore 1 s args gtb R_Ma := hC
  have hl : lv_has ls 1 [(0, .ref (ad 3))] := hl
  have hx := hC.1
  have hb := hC.2.1
  have hf : f_Ma_rememberBefore_3 G = (g_up (g_up (g_up (g_up (g_up G 3 6 (-1)) 3 8 (G 3 1)) 3 9 (G 3 2)) 3 10 (G 3 3)) 3 11 (G 3 4)) := rfl
  refine lv_aload_n hx hb d_Ma_rememberBefore_0 rfl (lv_at hl 0 rfl) ?_
  refine lv_iconst (v := (-1)) hx hb d_Ma_rememberBefore_1 (by decide) ?_
  refine gp_3_6 hC hB fl_Ma_19 d_Ma_rememberBefore_2 (fun H locs hB => ?_)
  refine lv_aload_n hx hb d_Ma_rememberBefore_5 rfl (lv_at hl 0 rfl) ?_
  refine lv_aload_n hx hb d_Ma_rememberBefore_6 rfl (lv_at hl 0 rfl) ?_
  refine gg_3_1 (x := (G 3 1)) hC hB rfl fl_Ma_28 d_Ma_rememberBefore_7 ?_
  refine gp_3_8 hC hB fl_Ma_61 d_Ma_rememberBefore_10 (fun H locs hB => ?_)
  refine lv_aload_n hx hb d_Ma_rememberBefore_13 rfl (lv_at hl 0 rfl) ?_
  refine lv_aload_n hx hb d_Ma_rememberBefore_14 rfl (lv_at hl 0 rfl) ?_
  refine gg_3_2 (x := (G 3 2)) hC hB rfl fl_Ma_31 d_Ma_rememberBefore_15 ?_
  refine gp_3_9 hC hB fl_Ma_64 d_Ma_rememberBefore_18 (fun H locs hB => ?_)
  refine lv_aload_n hx hb d_Ma_rememberBefore_21 rfl (lv_at hl 0 rfl) ?_
  refine lv_aload_n hx hb d_Ma_rememberBefore_22 rfl (lv_at hl 0 rfl) ?_
  refine gg_3_3 (x := (G 3 3)) hC hB rfl fl_Ma_34 d_Ma_rememberBefore_23 ?_
  refine gp_3_10 hC hB fl_Ma_67 d_Ma_rememberBefore_26 (fun H locs hB => ?_)
  refine lv_aload_n hx hb d_Ma_rememberBefore_29 rfl (lv_at hl 0 rfl) ?_
  refine lv_aload_n hx hb d_Ma_rememberBefore_30 rfl (lv_at hl 0 rfl) ?_
  refine gg_3_4 (x := (G 3 4)) hC hB rfl fl_Ma_37 d_Ma_rememberBefore_31 ?_
  refine gp_3_11 hC hB fl_Ma_70 d_Ma_rememberBefore_34 (fun H locs hB => ?_)
  exact g_vret hC hB hr hlk (by decide) (by decide) rfl hf d_Ma_rememberBefore_37
abbrev rm_Ro_slot : Room := { frames := 0, cells := 0, slots := 0, locals := 0 }
def f_Ro_slot (G : gT) (p0 : Int32) : Int32 := p0 &&& 1023
set_option maxHeartbeats 4000000 in
set_option maxRecDepth 100000 in
theorem c_Ro_slot (l : Launch) (G : gT) (p0 : Int32) (O : Int64) : gMet l y_Ro_slot w_Ro_slot rm_Ro_slot (fun ad => [.int p0]) G O (.inl (some (.int (f_Ro_slot G p0)))) G O := by
  refine g_body (by decide) (gCode_of _ _ _ _) (fun ad => by simp [lg_sl, Value.category]) ?_
  intro p e s0 s m args below meth c D cI cL ad hC hr hlk htb hB ls hl
  have hC : CallFix p m c b_Ro_slot 1 s args gtb R_Ro := hC
  have hl : lv_has ls 1 [(0, .int p0)] := hl
  have hx := hC.1
  have hb := hC.2.1
  have hf : f_Ro_slot G p0 = p0 &&& 1023 := rfl
  refine lv_iload_n hx hb d_Ro_slot_0 rfl (lv_at hl 0 rfl) ?_
  refine lv_sipush (v := 1023) hx hb d_Ro_slot_1 (by decide) ?_
  refine lv_iand hx hb d_Ro_slot_4 ?_
  exact g_iret hC hB hr hlk (by decide) (by decide) (by rw [hf]) rfl d_Ro_slot_5
abbrev rm_Mo_slot : Room := { frames := 0, cells := 0, slots := 0, locals := 0 }
def f_Mo_slot (G : gT) (p0 : Int32) : Int32 := p0 - p0 / 1025 * 1025
set_option maxHeartbeats 4000000 in
set_option maxRecDepth 100000 in
theorem c_Mo_slot (l : Launch) (G : gT) (p0 : Int32) (O : Int64) : gMet l y_Mo_slot w_Mo_slot rm_Mo_slot (fun ad => [.int p0]) G O (.inl (some (.int (f_Mo_slot G p0)))) G O := by
  refine g_body (by decide) (gCode_of _ _ _ _) (fun ad => by simp [lg_sl, Value.category]) ?_
  intro p e s0 s m args below meth c D cI cL ad hC hr hlk htb hB ls hl
  have hC : CallFix p m c b_Mo_slot 1 s args gtb R_Mo := hC
  have hl : lv_has ls 1 [(0, .int p0)] := hl
  have hx := hC.1
  have hb := hC.2.1
  have hf : f_Mo_slot G p0 = p0 - p0 / 1025 * 1025 := rfl
  refine lv_iload_n hx hb d_Mo_slot_0 rfl (lv_at hl 0 rfl) ?_
  refine lv_sipush (v := 1025) hx hb d_Mo_slot_1 (by decide) ?_
  refine lv_irem hx hb d_Mo_slot_4 (by decide) ?_
  exact g_iret hC hB hr hlk (by decide) (by decide) (by rw [hf]) rfl d_Mo_slot_5
abbrev rm_Mo_kindOf : Room := { frames := 0, cells := 0, slots := 0, locals := 0 }
def f_Mo_kindOf (G : gT) (p0 : Int32) : Int32 := g_ush p0 28
set_option maxHeartbeats 4000000 in
set_option maxRecDepth 100000 in
theorem c_Mo_kindOf (l : Launch) (G : gT) (p0 : Int32) (O : Int64) : gMet l y_Mo_kindOf w_Mo_kindOf rm_Mo_kindOf (fun ad => [.int p0]) G O (.inl (some (.int (f_Mo_kindOf G p0)))) G O := by
  refine g_body (by decide) (gCode_of _ _ _ _) (fun ad => by simp [lg_sl, Value.category]) ?_
  intro p e s0 s m args below meth c D cI cL ad hC hr hlk htb hB ls hl
  have hC : CallFix p m c b_Mo_kindOf 1 s args gtb R_Mo := hC
  have hl : lv_has ls 1 [(0, .int p0)] := hl
  have hx := hC.1
  have hb := hC.2.1
  have hf : f_Mo_kindOf G p0 = g_ush p0 28 := rfl
  refine lv_iload_n hx hb d_Mo_kindOf_0 rfl (lv_at hl 0 rfl) ?_
  refine lv_bipush (v := 28) hx hb d_Mo_kindOf_1 (by decide) ?_
  refine lv_iushr (v := g_ush p0 28) hx hb d_Mo_kindOf_3 rfl ?_
  exact g_iret hC hB hr hlk (by decide) (by decide) (by rw [hf]) rfl d_Mo_kindOf_4
abbrev rm_Mo_modulo : Room := { frames := 0, cells := 0, slots := 0, locals := 0 }
def f_Mo_modulo (G : gT) (p0 : Int32) (p1 : Int32) : Int32 := ((p0 - p0 / p1 * p1) + p1) - ((p0 - p0 / p1 * p1) + p1) / p1 * p1
def ok_Mo_modulo (G : gT) (p0 : Int32) (p1 : Int32) : Prop := (¬ p1 = 0 ∧ (¬ p1 = 0 ∧ True))
set_option maxHeartbeats 4000000 in
set_option maxRecDepth 100000 in
theorem c_Mo_modulo (l : Launch) (G : gT) (p0 : Int32) (p1 : Int32) (O : Int64) (hok : ok_Mo_modulo G p0 p1) : gMet l y_Mo_modulo w_Mo_modulo rm_Mo_modulo (fun ad => [.int p0, .int p1]) G O (.inl (some (.int (f_Mo_modulo G p0 p1)))) G O := by
  refine g_body (by decide) (gCode_of _ _ _ _) (fun ad => by simp [lg_sl, Value.category]) ?_
  intro p e s0 s m args below meth c D cI cL ad hC hr hlk htb hB ls hl
  have hC : CallFix p m c b_Mo_modulo 2 s args gtb R_Mo := hC
  have hl : lv_has ls 2 [(0, .int p0), (1, .int p1)] := hl
  have hx := hC.1
  have hb := hC.2.1
  have hf : f_Mo_modulo G p0 p1 = ((p0 - p0 / p1 * p1) + p1) - ((p0 - p0 / p1 * p1) + p1) / p1 * p1 := rfl
  have hok : (¬ p1 = 0 ∧ (¬ p1 = 0 ∧ True)) := hok
  refine lv_iload_n hx hb d_Mo_modulo_0 rfl (lv_at hl 0 rfl) ?_
  refine lv_iload_n hx hb d_Mo_modulo_1 rfl (lv_at hl 1 rfl) ?_
  refine lv_irem hx hb d_Mo_modulo_2 hok.1 ?_
  have hok := hok.2
  refine lv_iload_n hx hb d_Mo_modulo_3 rfl (lv_at hl 1 rfl) ?_
  refine lv_iadd hx hb d_Mo_modulo_4 ?_
  refine lv_iload_n hx hb d_Mo_modulo_5 rfl (lv_at hl 1 rfl) ?_
  refine lv_irem hx hb d_Mo_modulo_6 hok.1 ?_
  have hok := hok.2
  exact g_iret hC hB hr hlk (by decide) (by decide) (by rw [hf]) rfl d_Mo_modulo_7
abbrev rm_Mo_thrown : Room := { frames := 0, cells := 0, slots := 0, locals := 0 }
def f_Mo_thrown (G : gT) : Int32 := (G 16 0)
set_option maxHeartbeats 4000000 in
set_option maxRecDepth 100000 in
theorem c_Mo_thrown (l : Launch) (G : gT) (O : Int64) : gMet l y_Mo_thrown w_Mo_thrown rm_Mo_thrown (fun ad => [.ref (ad 16)]) G O (.inl (some (.int (f_Mo_thrown G)))) G O := by
  refine g_body (by decide) (gCode_of _ _ _ _) (fun ad => by simp [lg_sl, Value.category]) ?_
  intro p e s0 s m args below meth c D cI cL ad hC hr hlk htb hB ls hl
  have hC : CallFix p m c b_Mo_thrown 1 s args gtb R_Mo := hC
  have hl : lv_has ls 1 [(0, .ref (ad 16))] := hl
  have hx := hC.1
  have hb := hC.2.1
  have hf : f_Mo_thrown G = (G 16 0) := rfl
  refine lv_aload_n hx hb d_Mo_thrown_0 rfl (lv_at hl 0 rfl) ?_
  refine gg_16_0 (x := (G 16 0)) hC hB rfl fl_Mo_43 d_Mo_thrown_1 ?_
  exact g_iret hC hB hr hlk (by decide) (by decide) (by rw [hf]) rfl d_Mo_thrown_4
abbrev rm_Mo_fail : Room := { frames := 0, cells := 0, slots := 0, locals := 0 }
def f_Mo_fail (G : gT) (p1 : Int32) : Int32 × gT := (0, (g_up G 16 0 p1))
set_option maxHeartbeats 4000000 in
set_option maxRecDepth 100000 in
theorem c_Mo_fail (l : Launch) (G : gT) (p1 : Int32) (O : Int64) : gMet l y_Mo_fail w_Mo_fail rm_Mo_fail (fun ad => [.ref (ad 16), .int p1]) G O (.inl (some (.int (f_Mo_fail G p1).1))) ((f_Mo_fail G p1).2) O := by
  refine g_body (by decide) (gCode_of _ _ _ _) (fun ad => by simp [lg_sl, Value.category]) ?_
  intro p e s0 s m args below meth c D cI cL ad hC hr hlk htb hB ls hl
  have hC : CallFix p m c b_Mo_fail 2 s args gtb R_Mo := hC
  have hl : lv_has ls 2 [(0, .ref (ad 16)), (1, .int p1)] := hl
  have hx := hC.1
  have hb := hC.2.1
  have hf : f_Mo_fail G p1 = (0, (g_up G 16 0 p1)) := rfl
  refine lv_aload_n hx hb d_Mo_fail_0 rfl (lv_at hl 0 rfl) ?_
  refine lv_iload_n hx hb d_Mo_fail_1 rfl (lv_at hl 1 rfl) ?_
  refine gp_16_0 hC hB fl_Mo_43 d_Mo_fail_2 (fun H locs hB => ?_)
  refine lv_iconst (v := 0) hx hb d_Mo_fail_5 (by decide) ?_
  exact g_iret hC hB hr hlk (by decide) (by decide) (by rw [hf]) (by rw [hf]) d_Mo_fail_6
abbrev rm_Mo_within : Room := { frames := 0, cells := 0, slots := 0, locals := 0 }
def f_Mo_within (G : gT) (p0 : Int32) (p1 : Int32) (p2 : Int32) : Int32 := (if p0 < p1 then 0 else (if p2 < p0 then 0 else 1))
set_option maxHeartbeats 4000000 in
set_option maxRecDepth 100000 in
theorem c_Mo_within (l : Launch) (G : gT) (p0 : Int32) (p1 : Int32) (p2 : Int32) (O : Int64) : gMet l y_Mo_within w_Mo_within rm_Mo_within (fun ad => [.int p0, .int p1, .int p2]) G O (.inl (some (.int (f_Mo_within G p0 p1 p2)))) G O := by
  refine g_body (by decide) (gCode_of _ _ _ _) (fun ad => by simp [lg_sl, Value.category]) ?_
  intro p e s0 s m args below meth c D cI cL ad hC hr hlk htb hB ls hl
  have hC : CallFix p m c b_Mo_within 3 s args gtb R_Mo := hC
  have hl : lv_has ls 3 [(0, .int p0), (1, .int p1), (2, .int p2)] := hl
  have hx := hC.1
  have hb := hC.2.1
  have hf : f_Mo_within G p0 p1 p2 = (if p0 < p1 then 0 else (if p2 < p0 then 0 else 1)) := rfl
  refine lv_iload_n hx hb d_Mo_within_0 rfl (lv_at hl 0 rfl) ?_
  refine lv_iload_n hx hb d_Mo_within_1 rfl (lv_at hl 1 rfl) ?_
  refine lv_icmp_lt (tgt := 14) hx hb d_Mo_within_2 (by decide) (fun c1 => ?_) (fun c1 => ?_)
  · have hf := hf.trans (if_pos c1)
    refine lv_iconst (v := 0) hx hb d_Mo_within_14 (by decide) ?_
    exact g_zret hC hB hr hlk (by decide) (by decide) (by decide) (by rw [hf]) rfl d_Mo_within_15
  · have hf := hf.trans (if_neg c1)
    refine lv_iload_n hx hb d_Mo_within_5 rfl (lv_at hl 0 rfl) ?_
    refine lv_iload_n hx hb d_Mo_within_6 rfl (lv_at hl 2 rfl) ?_
    refine lv_icmp_gt (tgt := 14) hx hb d_Mo_within_7 (by decide) (fun c2 => ?_) (fun c2 => ?_)
    · have hf := hf.trans (if_pos c2)
      refine lv_iconst (v := 0) hx hb d_Mo_within_14 (by decide) ?_
      exact g_zret hC hB hr hlk (by decide) (by decide) (by decide) (by rw [hf]) rfl d_Mo_within_15
    · have hf := hf.trans (if_neg c2)
      refine lv_iconst (v := 1) hx hb d_Mo_within_10 (by decide) ?_
      refine lv_goto (tgt := 15) hx hb d_Mo_within_11 (by decide) ?_
      exact g_zret hC hB hr hlk (by decide) (by decide) (by decide) (by rw [hf]) rfl d_Mo_within_15
end
section
abbrev rm_Ma_wouldWait_3 : Room := { frames := 0, cells := 0, slots := 0, locals := 0 }
def f_Ma_wouldWait_3 (G : gT) (p2 : Int32) : Int32 := (if (G 3 5) = 0 then (if (g_ush (G 1 ((G 3 1).toNatClampNeg)) 28) = 8 then (if (G 3 2) < p2 then 0 else 1) else 0) else 0)
def ok_Ma_wouldWait_3 (G : gT) (p2 : Int32) : Prop := (((G 3 5) = 0 → (vp_in (G 3 1) 64 ∧ True)) ∧ (¬ (G 3 5) = 0 → True))
set_option maxHeartbeats 4000000 in
set_option maxRecDepth 100000 in
theorem c_Ma_wouldWait_3 (l : Launch) (G : gT) (p2 : Int32) (O : Int64) (hok : ok_Ma_wouldWait_3 G p2) : gMet l y_Ma_wouldWait w_Ma_wouldWait rm_Ma_wouldWait_3 (fun ad => [.ref (ad 3), .ref (ad 1), .int p2]) G O (.inl (some (.int (f_Ma_wouldWait_3 G p2)))) G O := by
  refine g_body (by decide) (gCode_of _ _ _ _) (fun ad => by simp [lg_sl, Value.category]) ?_
  intro p e s0 s m args below meth c D cI cL ad hC hr hlk htb hB ls hl
  have hC : CallFix p m c b_Ma_wouldWait 3 s args gtb R_Ma := hC
  have hl : lv_has ls 3 [(0, .ref (ad 3)), (1, .ref (ad 1)), (2, .int p2)] := hl
  have hx := hC.1
  have hb := hC.2.1
  have hf : f_Ma_wouldWait_3 G p2 = (if (G 3 5) = 0 then (if (g_ush (G 1 ((G 3 1).toNatClampNeg)) 28) = 8 then (if (G 3 2) < p2 then 0 else 1) else 0) else 0) := rfl
  have hok : (((G 3 5) = 0 → (vp_in (G 3 1) 64 ∧ True)) ∧ (¬ (G 3 5) = 0 → True)) := hok
  refine lv_aload_n hx hb d_Ma_wouldWait_0 rfl (lv_at hl 0 rfl) ?_
  refine gg_3_5 (x := (G 3 5)) hC hB rfl fl_Ma_15 d_Ma_wouldWait_1 ?_
  refine lv_if_ne (tgt := 33) hx hb d_Ma_wouldWait_4 (by decide) (fun c1 => ?_) (fun c1 => ?_)
  · have hf := hf.trans (if_neg c1)
    have hok := hok.2 c1
    refine lv_iconst (v := 0) hx hb d_Ma_wouldWait_33 (by decide) ?_
    exact g_zret hC hB hr hlk (by decide) (by decide) (by decide) (by rw [hf]) rfl d_Ma_wouldWait_34
  · have hf := hf.trans (if_pos c1)
    have hok := hok.1 c1
    refine lv_aload_n hx hb d_Ma_wouldWait_7 rfl (lv_at hl 1 rfl) ?_
    refine lv_aload_n hx hb d_Ma_wouldWait_8 rfl (lv_at hl 0 rfl) ?_
    refine gg_3_1 (x := (G 3 1)) hC hB rfl fl_Ma_28 d_Ma_wouldWait_9 ?_
    refine ga_1 (x := (G 1 ((G 3 1).toNatClampNeg))) hC hB hok.1 rfl d_Ma_wouldWait_12 ?_
    have hok := hok.2
    refine lv_bipush (v := 28) hx hb d_Ma_wouldWait_13 (by decide) ?_
    refine lv_iushr (v := g_ush (G 1 ((G 3 1).toNatClampNeg)) 28) hx hb d_Ma_wouldWait_15 rfl ?_
    refine lv_bipush (v := 8) hx hb d_Ma_wouldWait_16 (by decide) ?_
    refine lv_icmp_ne (tgt := 33) hx hb d_Ma_wouldWait_18 (by decide) (fun c2 => ?_) (fun c2 => ?_)
    · have hf := hf.trans (if_neg c2)
      refine lv_iconst (v := 0) hx hb d_Ma_wouldWait_33 (by decide) ?_
      exact g_zret hC hB hr hlk (by decide) (by decide) (by decide) (by rw [hf]) rfl d_Ma_wouldWait_34
    · have hf := hf.trans (if_pos c2)
      refine lv_aload_n hx hb d_Ma_wouldWait_21 rfl (lv_at hl 0 rfl) ?_
      refine gg_3_2 (x := (G 3 2)) hC hB rfl fl_Ma_31 d_Ma_wouldWait_22 ?_
      refine lv_iload_n hx hb d_Ma_wouldWait_25 rfl (lv_at hl 2 rfl) ?_
      refine lv_icmp_lt (tgt := 33) hx hb d_Ma_wouldWait_26 (by decide) (fun c3 => ?_) (fun c3 => ?_)
      · have hf := hf.trans (if_pos c3)
        refine lv_iconst (v := 0) hx hb d_Ma_wouldWait_33 (by decide) ?_
        exact g_zret hC hB hr hlk (by decide) (by decide) (by decide) (by rw [hf]) rfl d_Ma_wouldWait_34
      · have hf := hf.trans (if_neg c3)
        refine lv_iconst (v := 1) hx hb d_Ma_wouldWait_29 (by decide) ?_
        refine lv_goto (tgt := 34) hx hb d_Ma_wouldWait_30 (by decide) ?_
        exact g_zret hC hB hr hlk (by decide) (by decide) (by decide) (by rw [hf]) rfl d_Ma_wouldWait_34
abbrev rm_Ma_moveNumbers_3 : Room := { frames := 1, cells := 0, slots := 0, locals := 15 }
def f_Ma_moveNumbers_3 (G : gT) (p1 : Int32) (p2 : Int32) : gT := (if p1 = 5 then (f_Ma_write_3 G (f_Ma_register G p2 24) (G 4 ((8 + (((G 4 ((f_Ma_register G p2 20).toNatClampNeg)) + p2.toInt16.toInt32) &&& 255)).toNatClampNeg))) else (if p1 = 6 then (f_Ma_write_3 G (8 + (((G 4 ((f_Ma_register G p2 20).toNatClampNeg)) + p2.toInt16.toInt32) &&& 255)) (G 4 ((f_Ma_register G p2 24).toNatClampNeg))) else (if p1 = 7 then (if (G 4 ((f_Ma_register G p2 24).toNatClampNeg)) = 0 then G else (g_up G 3 1 (((G 3 8) + p2.toInt16.toInt32) &&& 63))) else (g_up (g_up G 3 3 ((G 3 3) + 1)) 3 4 ((31 * (G 3 4)) + (G 4 ((f_Ma_register G p2 24).toNatClampNeg)))))))
def ok_Ma_moveNumbers_3 (G : gT) (p1 : Int32) (p2 : Int32) : Prop := (vp_in (f_Ma_register G p2 20) 264 ∧ ((p1 = 5 → (vp_in (8 + (((G 4 ((f_Ma_register G p2 20).toNatClampNeg)) + p2.toInt16.toInt32) &&& 255)) 264 ∧ (ok_Ma_write_3 G (f_Ma_register G p2 24) (G 4 ((8 + (((G 4 ((f_Ma_register G p2 20).toNatClampNeg)) + p2.toInt16.toInt32) &&& 255)).toNatClampNeg)) ∧ True))) ∧ (¬ p1 = 5 → ((p1 = 6 → (vp_in (f_Ma_register G p2 24) 264 ∧ (ok_Ma_write_3 G (8 + (((G 4 ((f_Ma_register G p2 20).toNatClampNeg)) + p2.toInt16.toInt32) &&& 255)) (G 4 ((f_Ma_register G p2 24).toNatClampNeg)) ∧ True))) ∧ (¬ p1 = 6 → ((p1 = 7 → (vp_in (f_Ma_register G p2 24) 264 ∧ True)) ∧ (¬ p1 = 7 → (vp_in (f_Ma_register G p2 24) 264 ∧ True))))))))
set_option maxHeartbeats 4000000 in
set_option maxRecDepth 100000 in
theorem c_Ma_moveNumbers_3 (l : Launch) (G : gT) (p1 : Int32) (p2 : Int32) (O : Int64) (hok : ok_Ma_moveNumbers_3 G p1 p2) : gMet l y_Ma_moveNumbers w_Ma_moveNumbers rm_Ma_moveNumbers_3 (fun ad => [.ref (ad 3), .int p1, .int p2]) G O (.inl (none)) (f_Ma_moveNumbers_3 G p1 p2) O := by
  refine g_body (by decide) (gCode_of _ _ _ _) (fun ad => by simp [lg_sl, Value.category]) ?_
  intro p e s0 s m args below meth c D cI cL ad hC hr hlk htb hB ls hl
  have hC : CallFix p m c b_Ma_moveNumbers 6 s args gtb R_Ma := hC
  have hl : lv_has ls 6 [(0, .ref (ad 3)), (1, .int p1), (2, .int p2)] := hl
  have hx := hC.1
  have hb := hC.2.1
  have hf : f_Ma_moveNumbers_3 G p1 p2 = (if p1 = 5 then (f_Ma_write_3 G (f_Ma_register G p2 24) (G 4 ((8 + (((G 4 ((f_Ma_register G p2 20).toNatClampNeg)) + p2.toInt16.toInt32) &&& 255)).toNatClampNeg))) else (if p1 = 6 then (f_Ma_write_3 G (8 + (((G 4 ((f_Ma_register G p2 20).toNatClampNeg)) + p2.toInt16.toInt32) &&& 255)) (G 4 ((f_Ma_register G p2 24).toNatClampNeg))) else (if p1 = 7 then (if (G 4 ((f_Ma_register G p2 24).toNatClampNeg)) = 0 then G else (g_up G 3 1 (((G 3 8) + p2.toInt16.toInt32) &&& 63))) else (g_up (g_up G 3 3 ((G 3 3) + 1)) 3 4 ((31 * (G 3 4)) + (G 4 ((f_Ma_register G p2 24).toNatClampNeg))))))) := rfl
  have hok : (vp_in (f_Ma_register G p2 20) 264 ∧ ((p1 = 5 → (vp_in (8 + (((G 4 ((f_Ma_register G p2 20).toNatClampNeg)) + p2.toInt16.toInt32) &&& 255)) 264 ∧ (ok_Ma_write_3 G (f_Ma_register G p2 24) (G 4 ((8 + (((G 4 ((f_Ma_register G p2 20).toNatClampNeg)) + p2.toInt16.toInt32) &&& 255)).toNatClampNeg)) ∧ True))) ∧ (¬ p1 = 5 → ((p1 = 6 → (vp_in (f_Ma_register G p2 24) 264 ∧ (ok_Ma_write_3 G (8 + (((G 4 ((f_Ma_register G p2 20).toNatClampNeg)) + p2.toInt16.toInt32) &&& 255)) (G 4 ((f_Ma_register G p2 24).toNatClampNeg)) ∧ True))) ∧ (¬ p1 = 6 → ((p1 = 7 → (vp_in (f_Ma_register G p2 24) 264 ∧ True)) ∧ (¬ p1 = 7 → (vp_in (f_Ma_register G p2 24) 264 ∧ True)))))))) := hok
  refine lv_iload_n hx hb d_Ma_moveNumbers_0 rfl (lv_at hl 2 rfl) ?_
  refine lv_bipush (v := 24) hx hb d_Ma_moveNumbers_1 (by decide) ?_
  refine g_callSi (As := [.int p2, .int 24]) (rest := []) hC hB (c_Ma_register l G p2 24 O) rfl key_Ma_register rfl sta_Ma_register ml_Ma_47 rfl hl.1 ⟨Nat.le_of_ble_eq_true rfl, Nat.le_of_ble_eq_true rfl, Nat.le_of_ble_eq_true rfl, Nat.le_of_ble_eq_true rfl⟩ d_Ma_moveNumbers_3 (fun H locs hB => ?_)
  refine lv_istore_n (lv' := [(3, .int (f_Ma_register G p2 24)), (0, .ref (ad 3)), (1, .int p1), (2, .int p2)]) hx hb d_Ma_moveNumbers_6 rfl hl (by decide) rfl (fun ls hl => ?_)
  refine lv_iload_n hx hb d_Ma_moveNumbers_7 rfl (lv_at hl 3 rfl) ?_
  refine lv_i2s (v := p2.toInt16.toInt32) hx hb d_Ma_moveNumbers_8 rfl ?_
  refine lv_istore (lv' := [(4, .int p2.toInt16.toInt32), (3, .int (f_Ma_register G p2 24)), (0, .ref (ad 3)), (1, .int p1), (2, .int p2)]) hx hb d_Ma_moveNumbers_9 hl (by decide) rfl (fun ls hl => ?_)
  refine lv_bipush (v := 8) hx hb d_Ma_moveNumbers_11 (by decide) ?_
  refine lv_aload_n hx hb d_Ma_moveNumbers_13 rfl (lv_at hl 2 rfl) ?_
  refine gr_3_0 hC hB fl_Ma_9 d_Ma_moveNumbers_14 ?_
  refine lv_iload_n hx hb d_Ma_moveNumbers_17 rfl (lv_at hl 4 rfl) ?_
  refine lv_bipush (v := 20) hx hb d_Ma_moveNumbers_18 (by decide) ?_
  refine g_callSi (As := [.int p2, .int 20]) (rest := [.ref (ad 4), .int 8]) hC hB (c_Ma_register l G p2 20 O) rfl key_Ma_register rfl sta_Ma_register ml_Ma_47 rfl hl.1 ⟨Nat.le_of_ble_eq_true rfl, Nat.le_of_ble_eq_true rfl, Nat.le_of_ble_eq_true rfl, Nat.le_of_ble_eq_true rfl⟩ d_Ma_moveNumbers_20 (fun H locs hB => ?_)
  refine ga_4 (x := (G 4 ((f_Ma_register G p2 20).toNatClampNeg))) hC hB hok.1 rfl d_Ma_moveNumbers_23 ?_
  have hok := hok.2
  refine lv_iload hx hb d_Ma_moveNumbers_24 (lv_at hl 0 rfl) ?_
  refine lv_iadd hx hb d_Ma_moveNumbers_26 ?_
  refine lv_sipush (v := 255) hx hb d_Ma_moveNumbers_27 (by decide) ?_
  refine lv_iand hx hb d_Ma_moveNumbers_30 ?_
  refine lv_iadd hx hb d_Ma_moveNumbers_31 ?_
  refine lv_istore (lv' := [(5, .int (8 + (((G 4 ((f_Ma_register G p2 20).toNatClampNeg)) + p2.toInt16.toInt32) &&& 255))), (4, .int p2.toInt16.toInt32), (3, .int (f_Ma_register G p2 24)), (0, .ref (ad 3)), (1, .int p1), (2, .int p2)]) hx hb d_Ma_moveNumbers_32 hl (by decide) rfl (fun ls hl => ?_)
  refine lv_iload_n hx hb d_Ma_moveNumbers_34 rfl (lv_at hl 4 rfl) ?_
  by_cases c2 : p1 = 5
  · have hf := hf.trans (if_pos c2)
    have hok := hok.1 c2
    refine g_switch (tgt := 60) hC d_Ma_moveNumbers_35 (fun i hi => by show i < 3; omega) (by rw [c2]; decide) ?_
    refine lv_aload_n hx hb d_Ma_moveNumbers_60 rfl (lv_at hl 3 rfl) ?_
    refine lv_iload_n hx hb d_Ma_moveNumbers_61 rfl (lv_at hl 2 rfl) ?_
    refine lv_aload_n hx hb d_Ma_moveNumbers_62 rfl (lv_at hl 3 rfl) ?_
    refine gr_3_0 hC hB fl_Ma_9 d_Ma_moveNumbers_63 ?_
    refine lv_iload hx hb d_Ma_moveNumbers_66 (lv_at hl 0 rfl) ?_
    refine ga_4 (x := (G 4 ((8 + (((G 4 ((f_Ma_register G p2 20).toNatClampNeg)) + p2.toInt16.toInt32) &&& 255)).toNatClampNeg))) hC hB hok.1 rfl d_Ma_moveNumbers_68 ?_
    have hok := hok.2
    refine g_callVv (b := ad 3) (As := [.int (f_Ma_register G p2 24), .int (G 4 ((8 + (((G 4 ((f_Ma_register G p2 20).toNatClampNeg)) + p2.toInt16.toInt32) &&& 255)).toNatClampNeg))]) (rest := []) hC hB (c_Ma_write_3 l G (f_Ma_register G p2 24) (G 4 ((8 + (((G 4 ((f_Ma_register G p2 20).toNatClampNeg)) + p2.toInt16.toInt32) &&& 255)).toNatClampNeg)) O hok.1) rfl key_Ma_write rfl ins_Ma_write sel_Ma_write ml_Ma_51 (g_rec3 hB) rfl hl.1 ⟨Nat.le_of_ble_eq_true rfl, Nat.le_of_ble_eq_true rfl, Nat.le_of_ble_eq_true rfl, Nat.le_of_ble_eq_true rfl⟩ d_Ma_moveNumbers_69 (fun H locs hB => ?_)
    have hok := hok.2
    refine lv_goto (tgt := 144) hx hb d_Ma_moveNumbers_72 (by decide) ?_
    exact g_vret hC hB hr hlk (by decide) (by decide) rfl hf d_Ma_moveNumbers_144
  · have hf := hf.trans (if_neg c2)
    have hok := hok.2 c2
    by_cases c3 : p1 = 6
    · have hf := hf.trans (if_pos c3)
      have hok := hok.1 c3
      refine g_switch (tgt := 75) hC d_Ma_moveNumbers_35 (fun i hi => by show i < 3; omega) (by rw [c3]; decide) ?_
      refine lv_aload_n hx hb d_Ma_moveNumbers_75 rfl (lv_at hl 3 rfl) ?_
      refine lv_iload hx hb d_Ma_moveNumbers_76 (lv_at hl 0 rfl) ?_
      refine lv_aload_n hx hb d_Ma_moveNumbers_78 rfl (lv_at hl 3 rfl) ?_
      refine gr_3_0 hC hB fl_Ma_9 d_Ma_moveNumbers_79 ?_
      refine lv_iload_n hx hb d_Ma_moveNumbers_82 rfl (lv_at hl 2 rfl) ?_
      refine ga_4 (x := (G 4 ((f_Ma_register G p2 24).toNatClampNeg))) hC hB hok.1 rfl d_Ma_moveNumbers_83 ?_
      have hok := hok.2
      refine g_callVv (b := ad 3) (As := [.int (8 + (((G 4 ((f_Ma_register G p2 20).toNatClampNeg)) + p2.toInt16.toInt32) &&& 255)), .int (G 4 ((f_Ma_register G p2 24).toNatClampNeg))]) (rest := []) hC hB (c_Ma_write_3 l G (8 + (((G 4 ((f_Ma_register G p2 20).toNatClampNeg)) + p2.toInt16.toInt32) &&& 255)) (G 4 ((f_Ma_register G p2 24).toNatClampNeg)) O hok.1) rfl key_Ma_write rfl ins_Ma_write sel_Ma_write ml_Ma_51 (g_rec3 hB) rfl hl.1 ⟨Nat.le_of_ble_eq_true rfl, Nat.le_of_ble_eq_true rfl, Nat.le_of_ble_eq_true rfl, Nat.le_of_ble_eq_true rfl⟩ d_Ma_moveNumbers_84 (fun H locs hB => ?_)
      have hok := hok.2
      refine lv_goto (tgt := 144) hx hb d_Ma_moveNumbers_87 (by decide) ?_
      exact g_vret hC hB hr hlk (by decide) (by decide) rfl hf d_Ma_moveNumbers_144
    · have hf := hf.trans (if_neg c3)
      have hok := hok.2 c3
      by_cases c4 : p1 = 7
      · have hf := hf.trans (if_pos c4)
        have hok := hok.1 c4
        refine g_switch (tgt := 90) hC d_Ma_moveNumbers_35 (fun i hi => by show i < 3; omega) (by rw [c4]; decide) ?_
        refine lv_aload_n hx hb d_Ma_moveNumbers_90 rfl (lv_at hl 3 rfl) ?_
        refine gr_3_0 hC hB fl_Ma_9 d_Ma_moveNumbers_91 ?_
        refine lv_iload_n hx hb d_Ma_moveNumbers_94 rfl (lv_at hl 2 rfl) ?_
        refine ga_4 (x := (G 4 ((f_Ma_register G p2 24).toNatClampNeg))) hC hB hok.1 rfl d_Ma_moveNumbers_95 ?_
        have hok := hok.2
        refine lv_if_eq (tgt := 144) hx hb d_Ma_moveNumbers_96 (by decide) (fun c1 => ?_) (fun c1 => ?_)
        · have hf := hf.trans (if_pos c1)
          exact g_vret hC hB hr hlk (by decide) (by decide) rfl hf d_Ma_moveNumbers_144
        · have hf := hf.trans (if_neg c1)
          refine lv_aload_n hx hb d_Ma_moveNumbers_99 rfl (lv_at hl 3 rfl) ?_
          refine lv_aload_n hx hb d_Ma_moveNumbers_100 rfl (lv_at hl 3 rfl) ?_
          refine gg_3_8 (x := (G 3 8)) hC hB rfl fl_Ma_61 d_Ma_moveNumbers_101 ?_
          refine lv_iload hx hb d_Ma_moveNumbers_104 (lv_at hl 1 rfl) ?_
          refine lv_iadd hx hb d_Ma_moveNumbers_106 ?_
          refine lv_bipush (v := 63) hx hb d_Ma_moveNumbers_107 (by decide) ?_
          refine lv_iand hx hb d_Ma_moveNumbers_109 ?_
          refine gp_3_1 hC hB fl_Ma_28 d_Ma_moveNumbers_110 (fun H locs hB => ?_)
          refine lv_goto (tgt := 144) hx hb d_Ma_moveNumbers_113 (by decide) ?_
          exact g_vret hC hB hr hlk (by decide) (by decide) rfl hf d_Ma_moveNumbers_144
      · have hf := hf.trans (if_neg c4)
        have hok := hok.2 c4
        refine g_switch (tgt := 116) hC d_Ma_moveNumbers_35 (fun i hi => by show i < 3; omega) ?_ ?_
        · have e0 := g_ne (k := 5) c2 (by decide)
          have e1 := g_ne (k := 6) c3 (by decide)
          have e2 := g_ne (k := 7) c4 (by decide)
          have e : (p1).toInt < 5 ∨ 7 < (p1).toInt := by omega
          generalize (p1).toInt = z at e ⊢
          rcases e with e | e
          · rw [g_swt, if_pos (by omega)]; decide
          · rw [g_swt, if_pos (by omega)]; decide
        · refine lv_aload_n hx hb d_Ma_moveNumbers_116 rfl (lv_at hl 3 rfl) ?_
          refine lv_dup hx hb d_Ma_moveNumbers_117 rfl ?_
          refine gg_3_3 (x := (G 3 3)) hC hB rfl fl_Ma_34 d_Ma_moveNumbers_118 ?_
          refine lv_iconst (v := 1) hx hb d_Ma_moveNumbers_121 (by decide) ?_
          refine lv_iadd hx hb d_Ma_moveNumbers_122 ?_
          refine gp_3_3 hC hB fl_Ma_34 d_Ma_moveNumbers_123 (fun H locs hB => ?_)
          refine lv_aload_n hx hb d_Ma_moveNumbers_126 rfl (lv_at hl 3 rfl) ?_
          refine lv_bipush (v := 31) hx hb d_Ma_moveNumbers_127 (by decide) ?_
          refine lv_aload_n hx hb d_Ma_moveNumbers_129 rfl (lv_at hl 3 rfl) ?_
          refine gg_3_4 (x := (G 3 4)) hC hB rfl fl_Ma_37 d_Ma_moveNumbers_130 ?_
          refine lv_imul hx hb d_Ma_moveNumbers_133 ?_
          refine lv_aload_n hx hb d_Ma_moveNumbers_134 rfl (lv_at hl 3 rfl) ?_
          refine gr_3_0 hC hB fl_Ma_9 d_Ma_moveNumbers_135 ?_
          refine lv_iload_n hx hb d_Ma_moveNumbers_138 rfl (lv_at hl 2 rfl) ?_
          refine ga_4 (x := (G 4 ((f_Ma_register G p2 24).toNatClampNeg))) hC hB hok.1 rfl d_Ma_moveNumbers_139 ?_
          have hok := hok.2
          refine lv_iadd hx hb d_Ma_moveNumbers_140 ?_
          refine gp_3_4 hC hB fl_Ma_37 d_Ma_moveNumbers_141 (fun H locs hB => ?_)
          exact g_vret hC hB hr hlk (by decide) (by decide) rfl hf d_Ma_moveNumbers_144
abbrev rm_Ma_compute_3 : Room := { frames := 1, cells := 0, slots := 0, locals := 14 }
def f_Ma_compute_3 (G : gT) (p1 : Int32) (p2 : Int32) : gT := (if p1 = 0 then (f_Ma_stop_3 G 1) else (if p1 = 1 then (f_Ma_write_3 G (f_Ma_register G p2 24) p2.toInt16.toInt32) else (if p1 = 2 then (f_Ma_write_3 G (f_Ma_register G p2 24) ((G 4 ((f_Ma_register G p2 20).toNatClampNeg)) + (G 4 ((f_Ma_register G p2 16).toNatClampNeg)))) else (if p1 = 3 then (f_Ma_write_3 G (f_Ma_register G p2 24) ((G 4 ((f_Ma_register G p2 20).toNatClampNeg)) - (G 4 ((f_Ma_register G p2 16).toNatClampNeg)))) else (if p1 = 4 then (f_Ma_write_3 G (f_Ma_register G p2 24) ((G 4 ((f_Ma_register G p2 20).toNatClampNeg)) ^^^ (G 4 ((f_Ma_register G p2 16).toNatClampNeg)))) else (if p1 = 10 then (f_Ma_write_3 G (f_Ma_register G p2 24) (g_ush (G 4 ((f_Ma_register G p2 20).toNatClampNeg)) ((G 4 ((f_Ma_register G p2 16).toNatClampNeg)) &&& 31))) else (if p1 = 11 then (f_Ma_write_3 G (f_Ma_register G p2 24) ((G 4 ((f_Ma_register G p2 20).toNatClampNeg)) * (G 4 ((f_Ma_register G p2 16).toNatClampNeg)))) else (if p1 = 12 then (if (G 4 ((f_Ma_register G p2 16).toNatClampNeg)) ≤ (G 4 ((f_Ma_register G p2 20).toNatClampNeg)) then (f_Ma_write_3 G (f_Ma_register G p2 24) 0) else (f_Ma_write_3 G (f_Ma_register G p2 24) 1)) else (f_Ma_stop_3 G 2)))))))))
def ok_Ma_compute_3 (G : gT) (p1 : Int32) (p2 : Int32) : Prop := (vp_in (f_Ma_register G p2 20) 264 ∧ (vp_in (f_Ma_register G p2 16) 264 ∧ ((p1 = 0 → True) ∧ (¬ p1 = 0 → ((p1 = 1 → (ok_Ma_write_3 G (f_Ma_register G p2 24) p2.toInt16.toInt32 ∧ True)) ∧ (¬ p1 = 1 → ((p1 = 2 → (ok_Ma_write_3 G (f_Ma_register G p2 24) ((G 4 ((f_Ma_register G p2 20).toNatClampNeg)) + (G 4 ((f_Ma_register G p2 16).toNatClampNeg))) ∧ True)) ∧ (¬ p1 = 2 → ((p1 = 3 → (ok_Ma_write_3 G (f_Ma_register G p2 24) ((G 4 ((f_Ma_register G p2 20).toNatClampNeg)) - (G 4 ((f_Ma_register G p2 16).toNatClampNeg))) ∧ True)) ∧ (¬ p1 = 3 → ((p1 = 4 → (ok_Ma_write_3 G (f_Ma_register G p2 24) ((G 4 ((f_Ma_register G p2 20).toNatClampNeg)) ^^^ (G 4 ((f_Ma_register G p2 16).toNatClampNeg))) ∧ True)) ∧ (¬ p1 = 4 → ((p1 = 10 → (ok_Ma_write_3 G (f_Ma_register G p2 24) (g_ush (G 4 ((f_Ma_register G p2 20).toNatClampNeg)) ((G 4 ((f_Ma_register G p2 16).toNatClampNeg)) &&& 31)) ∧ True)) ∧ (¬ p1 = 10 → ((p1 = 11 → (ok_Ma_write_3 G (f_Ma_register G p2 24) ((G 4 ((f_Ma_register G p2 20).toNatClampNeg)) * (G 4 ((f_Ma_register G p2 16).toNatClampNeg))) ∧ True)) ∧ (¬ p1 = 11 → ((p1 = 12 → (((G 4 ((f_Ma_register G p2 16).toNatClampNeg)) ≤ (G 4 ((f_Ma_register G p2 20).toNatClampNeg)) → (ok_Ma_write_3 G (f_Ma_register G p2 24) 0 ∧ True)) ∧ (¬ (G 4 ((f_Ma_register G p2 16).toNatClampNeg)) ≤ (G 4 ((f_Ma_register G p2 20).toNatClampNeg)) → (ok_Ma_write_3 G (f_Ma_register G p2 24) 1 ∧ True)))) ∧ (¬ p1 = 12 → True))))))))))))))))))
set_option maxHeartbeats 4000000 in
set_option maxRecDepth 100000 in
theorem c_Ma_compute_3 (l : Launch) (G : gT) (p1 : Int32) (p2 : Int32) (O : Int64) (hok : ok_Ma_compute_3 G p1 p2) : gMet l y_Ma_compute w_Ma_compute rm_Ma_compute_3 (fun ad => [.ref (ad 3), .int p1, .int p2]) G O (.inl (none)) (f_Ma_compute_3 G p1 p2) O := by
  refine g_body (by decide) (gCode_of _ _ _ _) (fun ad => by simp [lg_sl, Value.category]) ?_
  intro p e s0 s m args below meth c D cI cL ad hC hr hlk htb hB ls hl
  have hC : CallFix p m c b_Ma_compute 6 s args gtb R_Ma := hC
  have hl : lv_has ls 6 [(0, .ref (ad 3)), (1, .int p1), (2, .int p2)] := hl
  have hx := hC.1
  have hb := hC.2.1
  have hf : f_Ma_compute_3 G p1 p2 = (if p1 = 0 then (f_Ma_stop_3 G 1) else (if p1 = 1 then (f_Ma_write_3 G (f_Ma_register G p2 24) p2.toInt16.toInt32) else (if p1 = 2 then (f_Ma_write_3 G (f_Ma_register G p2 24) ((G 4 ((f_Ma_register G p2 20).toNatClampNeg)) + (G 4 ((f_Ma_register G p2 16).toNatClampNeg)))) else (if p1 = 3 then (f_Ma_write_3 G (f_Ma_register G p2 24) ((G 4 ((f_Ma_register G p2 20).toNatClampNeg)) - (G 4 ((f_Ma_register G p2 16).toNatClampNeg)))) else (if p1 = 4 then (f_Ma_write_3 G (f_Ma_register G p2 24) ((G 4 ((f_Ma_register G p2 20).toNatClampNeg)) ^^^ (G 4 ((f_Ma_register G p2 16).toNatClampNeg)))) else (if p1 = 10 then (f_Ma_write_3 G (f_Ma_register G p2 24) (g_ush (G 4 ((f_Ma_register G p2 20).toNatClampNeg)) ((G 4 ((f_Ma_register G p2 16).toNatClampNeg)) &&& 31))) else (if p1 = 11 then (f_Ma_write_3 G (f_Ma_register G p2 24) ((G 4 ((f_Ma_register G p2 20).toNatClampNeg)) * (G 4 ((f_Ma_register G p2 16).toNatClampNeg)))) else (if p1 = 12 then (if (G 4 ((f_Ma_register G p2 16).toNatClampNeg)) ≤ (G 4 ((f_Ma_register G p2 20).toNatClampNeg)) then (f_Ma_write_3 G (f_Ma_register G p2 24) 0) else (f_Ma_write_3 G (f_Ma_register G p2 24) 1)) else (f_Ma_stop_3 G 2))))))))) := rfl
  have hok : (vp_in (f_Ma_register G p2 20) 264 ∧ (vp_in (f_Ma_register G p2 16) 264 ∧ ((p1 = 0 → True) ∧ (¬ p1 = 0 → ((p1 = 1 → (ok_Ma_write_3 G (f_Ma_register G p2 24) p2.toInt16.toInt32 ∧ True)) ∧ (¬ p1 = 1 → ((p1 = 2 → (ok_Ma_write_3 G (f_Ma_register G p2 24) ((G 4 ((f_Ma_register G p2 20).toNatClampNeg)) + (G 4 ((f_Ma_register G p2 16).toNatClampNeg))) ∧ True)) ∧ (¬ p1 = 2 → ((p1 = 3 → (ok_Ma_write_3 G (f_Ma_register G p2 24) ((G 4 ((f_Ma_register G p2 20).toNatClampNeg)) - (G 4 ((f_Ma_register G p2 16).toNatClampNeg))) ∧ True)) ∧ (¬ p1 = 3 → ((p1 = 4 → (ok_Ma_write_3 G (f_Ma_register G p2 24) ((G 4 ((f_Ma_register G p2 20).toNatClampNeg)) ^^^ (G 4 ((f_Ma_register G p2 16).toNatClampNeg))) ∧ True)) ∧ (¬ p1 = 4 → ((p1 = 10 → (ok_Ma_write_3 G (f_Ma_register G p2 24) (g_ush (G 4 ((f_Ma_register G p2 20).toNatClampNeg)) ((G 4 ((f_Ma_register G p2 16).toNatClampNeg)) &&& 31)) ∧ True)) ∧ (¬ p1 = 10 → ((p1 = 11 → (ok_Ma_write_3 G (f_Ma_register G p2 24) ((G 4 ((f_Ma_register G p2 20).toNatClampNeg)) * (G 4 ((f_Ma_register G p2 16).toNatClampNeg))) ∧ True)) ∧ (¬ p1 = 11 → ((p1 = 12 → (((G 4 ((f_Ma_register G p2 16).toNatClampNeg)) ≤ (G 4 ((f_Ma_register G p2 20).toNatClampNeg)) → (ok_Ma_write_3 G (f_Ma_register G p2 24) 0 ∧ True)) ∧ (¬ (G 4 ((f_Ma_register G p2 16).toNatClampNeg)) ≤ (G 4 ((f_Ma_register G p2 20).toNatClampNeg)) → (ok_Ma_write_3 G (f_Ma_register G p2 24) 1 ∧ True)))) ∧ (¬ p1 = 12 → True)))))))))))))))))) := hok
  refine lv_iload_n hx hb d_Ma_compute_0 rfl (lv_at hl 2 rfl) ?_
  refine lv_bipush (v := 24) hx hb d_Ma_compute_1 (by decide) ?_
  refine g_callSi (As := [.int p2, .int 24]) (rest := []) hC hB (c_Ma_register l G p2 24 O) rfl key_Ma_register rfl sta_Ma_register ml_Ma_47 rfl hl.1 ⟨Nat.le_of_ble_eq_true rfl, Nat.le_of_ble_eq_true rfl, Nat.le_of_ble_eq_true rfl, Nat.le_of_ble_eq_true rfl⟩ d_Ma_compute_3 (fun H locs hB => ?_)
  refine lv_istore_n (lv' := [(3, .int (f_Ma_register G p2 24)), (0, .ref (ad 3)), (1, .int p1), (2, .int p2)]) hx hb d_Ma_compute_6 rfl hl (by decide) rfl (fun ls hl => ?_)
  refine lv_aload_n hx hb d_Ma_compute_7 rfl (lv_at hl 1 rfl) ?_
  refine gr_3_0 hC hB fl_Ma_9 d_Ma_compute_8 ?_
  refine lv_iload_n hx hb d_Ma_compute_11 rfl (lv_at hl 3 rfl) ?_
  refine lv_bipush (v := 20) hx hb d_Ma_compute_12 (by decide) ?_
  refine g_callSi (As := [.int p2, .int 20]) (rest := [.ref (ad 4)]) hC hB (c_Ma_register l G p2 20 O) rfl key_Ma_register rfl sta_Ma_register ml_Ma_47 rfl hl.1 ⟨Nat.le_of_ble_eq_true rfl, Nat.le_of_ble_eq_true rfl, Nat.le_of_ble_eq_true rfl, Nat.le_of_ble_eq_true rfl⟩ d_Ma_compute_14 (fun H locs hB => ?_)
  refine ga_4 (x := (G 4 ((f_Ma_register G p2 20).toNatClampNeg))) hC hB hok.1 rfl d_Ma_compute_17 ?_
  have hok := hok.2
  refine lv_istore (lv' := [(4, .int (G 4 ((f_Ma_register G p2 20).toNatClampNeg))), (3, .int (f_Ma_register G p2 24)), (0, .ref (ad 3)), (1, .int p1), (2, .int p2)]) hx hb d_Ma_compute_18 hl (by decide) rfl (fun ls hl => ?_)
  refine lv_aload_n hx hb d_Ma_compute_20 rfl (lv_at hl 2 rfl) ?_
  refine gr_3_0 hC hB fl_Ma_9 d_Ma_compute_21 ?_
  refine lv_iload_n hx hb d_Ma_compute_24 rfl (lv_at hl 4 rfl) ?_
  refine lv_bipush (v := 16) hx hb d_Ma_compute_25 (by decide) ?_
  refine g_callSi (As := [.int p2, .int 16]) (rest := [.ref (ad 4)]) hC hB (c_Ma_register l G p2 16 O) rfl key_Ma_register rfl sta_Ma_register ml_Ma_47 rfl hl.1 ⟨Nat.le_of_ble_eq_true rfl, Nat.le_of_ble_eq_true rfl, Nat.le_of_ble_eq_true rfl, Nat.le_of_ble_eq_true rfl⟩ d_Ma_compute_27 (fun H locs hB => ?_)
  refine ga_4 (x := (G 4 ((f_Ma_register G p2 16).toNatClampNeg))) hC hB hok.1 rfl d_Ma_compute_30 ?_
  have hok := hok.2
  refine lv_istore (lv' := [(5, .int (G 4 ((f_Ma_register G p2 16).toNatClampNeg))), (4, .int (G 4 ((f_Ma_register G p2 20).toNatClampNeg))), (3, .int (f_Ma_register G p2 24)), (0, .ref (ad 3)), (1, .int p1), (2, .int p2)]) hx hb d_Ma_compute_31 hl (by decide) rfl (fun ls hl => ?_)
  refine lv_iload_n hx hb d_Ma_compute_33 rfl (lv_at hl 4 rfl) ?_
  by_cases c2 : p1 = 0
  · have hf := hf.trans (if_pos c2)
    have hok := hok.1 c2
    refine g_switch (tgt := 100) hC d_Ma_compute_34 (fun i hi => by show i < 13; omega) (by rw [c2]; decide) ?_
    refine lv_aload_n hx hb d_Ma_compute_100 rfl (lv_at hl 3 rfl) ?_
    refine lv_iconst (v := 1) hx hb d_Ma_compute_101 (by decide) ?_
    refine g_callVv (b := ad 3) (As := [.int 1]) (rest := []) hC hB (c_Ma_stop_3 l G 1 O) rfl key_Ma_stop rfl ins_Ma_stop sel_Ma_stop ml_Ma_73 (g_rec3 hB) rfl hl.1 ⟨Nat.le_of_ble_eq_true rfl, Nat.le_of_ble_eq_true rfl, Nat.le_of_ble_eq_true rfl, Nat.le_of_ble_eq_true rfl⟩ d_Ma_compute_102 (fun H locs hB => ?_)
    refine lv_goto (tgt := 211) hx hb d_Ma_compute_105 (by decide) ?_
    exact g_vret hC hB hr hlk (by decide) (by decide) rfl hf d_Ma_compute_211
  · have hf := hf.trans (if_neg c2)
    have hok := hok.2 c2
    by_cases c3 : p1 = 1
    · have hf := hf.trans (if_pos c3)
      have hok := hok.1 c3
      refine g_switch (tgt := 108) hC d_Ma_compute_34 (fun i hi => by show i < 13; omega) (by rw [c3]; decide) ?_
      refine lv_aload_n hx hb d_Ma_compute_108 rfl (lv_at hl 3 rfl) ?_
      refine lv_iload_n hx hb d_Ma_compute_109 rfl (lv_at hl 2 rfl) ?_
      refine lv_iload_n hx hb d_Ma_compute_110 rfl (lv_at hl 5 rfl) ?_
      refine lv_i2s (v := p2.toInt16.toInt32) hx hb d_Ma_compute_111 rfl ?_
      refine g_callVv (b := ad 3) (As := [.int (f_Ma_register G p2 24), .int p2.toInt16.toInt32]) (rest := []) hC hB (c_Ma_write_3 l G (f_Ma_register G p2 24) p2.toInt16.toInt32 O hok.1) rfl key_Ma_write rfl ins_Ma_write sel_Ma_write ml_Ma_51 (g_rec3 hB) rfl hl.1 ⟨Nat.le_of_ble_eq_true rfl, Nat.le_of_ble_eq_true rfl, Nat.le_of_ble_eq_true rfl, Nat.le_of_ble_eq_true rfl⟩ d_Ma_compute_112 (fun H locs hB => ?_)
      have hok := hok.2
      refine lv_goto (tgt := 211) hx hb d_Ma_compute_115 (by decide) ?_
      exact g_vret hC hB hr hlk (by decide) (by decide) rfl hf d_Ma_compute_211
    · have hf := hf.trans (if_neg c3)
      have hok := hok.2 c3
      by_cases c4 : p1 = 2
      · have hf := hf.trans (if_pos c4)
        have hok := hok.1 c4
        refine g_switch (tgt := 118) hC d_Ma_compute_34 (fun i hi => by show i < 13; omega) (by rw [c4]; decide) ?_
        refine lv_aload_n hx hb d_Ma_compute_118 rfl (lv_at hl 3 rfl) ?_
        refine lv_iload_n hx hb d_Ma_compute_119 rfl (lv_at hl 2 rfl) ?_
        refine lv_iload hx hb d_Ma_compute_120 (lv_at hl 1 rfl) ?_
        refine lv_iload hx hb d_Ma_compute_122 (lv_at hl 0 rfl) ?_
        refine lv_iadd hx hb d_Ma_compute_124 ?_
        refine g_callVv (b := ad 3) (As := [.int (f_Ma_register G p2 24), .int ((G 4 ((f_Ma_register G p2 20).toNatClampNeg)) + (G 4 ((f_Ma_register G p2 16).toNatClampNeg)))]) (rest := []) hC hB (c_Ma_write_3 l G (f_Ma_register G p2 24) ((G 4 ((f_Ma_register G p2 20).toNatClampNeg)) + (G 4 ((f_Ma_register G p2 16).toNatClampNeg))) O hok.1) rfl key_Ma_write rfl ins_Ma_write sel_Ma_write ml_Ma_51 (g_rec3 hB) rfl hl.1 ⟨Nat.le_of_ble_eq_true rfl, Nat.le_of_ble_eq_true rfl, Nat.le_of_ble_eq_true rfl, Nat.le_of_ble_eq_true rfl⟩ d_Ma_compute_125 (fun H locs hB => ?_)
        have hok := hok.2
        refine lv_goto (tgt := 211) hx hb d_Ma_compute_128 (by decide) ?_
        exact g_vret hC hB hr hlk (by decide) (by decide) rfl hf d_Ma_compute_211
      · have hf := hf.trans (if_neg c4)
        have hok := hok.2 c4
        by_cases c5 : p1 = 3
        · have hf := hf.trans (if_pos c5)
          have hok := hok.1 c5
          refine g_switch (tgt := 131) hC d_Ma_compute_34 (fun i hi => by show i < 13; omega) (by rw [c5]; decide) ?_
          refine lv_aload_n hx hb d_Ma_compute_131 rfl (lv_at hl 3 rfl) ?_
          refine lv_iload_n hx hb d_Ma_compute_132 rfl (lv_at hl 2 rfl) ?_
          refine lv_iload hx hb d_Ma_compute_133 (lv_at hl 1 rfl) ?_
          refine lv_iload hx hb d_Ma_compute_135 (lv_at hl 0 rfl) ?_
          refine lv_isub hx hb d_Ma_compute_137 ?_
          refine g_callVv (b := ad 3) (As := [.int (f_Ma_register G p2 24), .int ((G 4 ((f_Ma_register G p2 20).toNatClampNeg)) - (G 4 ((f_Ma_register G p2 16).toNatClampNeg)))]) (rest := []) hC hB (c_Ma_write_3 l G (f_Ma_register G p2 24) ((G 4 ((f_Ma_register G p2 20).toNatClampNeg)) - (G 4 ((f_Ma_register G p2 16).toNatClampNeg))) O hok.1) rfl key_Ma_write rfl ins_Ma_write sel_Ma_write ml_Ma_51 (g_rec3 hB) rfl hl.1 ⟨Nat.le_of_ble_eq_true rfl, Nat.le_of_ble_eq_true rfl, Nat.le_of_ble_eq_true rfl, Nat.le_of_ble_eq_true rfl⟩ d_Ma_compute_138 (fun H locs hB => ?_)
          have hok := hok.2
          refine lv_goto (tgt := 211) hx hb d_Ma_compute_141 (by decide) ?_
          exact g_vret hC hB hr hlk (by decide) (by decide) rfl hf d_Ma_compute_211
        · have hf := hf.trans (if_neg c5)
          have hok := hok.2 c5
          by_cases c6 : p1 = 4
          · have hf := hf.trans (if_pos c6)
            have hok := hok.1 c6
            refine g_switch (tgt := 144) hC d_Ma_compute_34 (fun i hi => by show i < 13; omega) (by rw [c6]; decide) ?_
            refine lv_aload_n hx hb d_Ma_compute_144 rfl (lv_at hl 3 rfl) ?_
            refine lv_iload_n hx hb d_Ma_compute_145 rfl (lv_at hl 2 rfl) ?_
            refine lv_iload hx hb d_Ma_compute_146 (lv_at hl 1 rfl) ?_
            refine lv_iload hx hb d_Ma_compute_148 (lv_at hl 0 rfl) ?_
            refine lv_ixor hx hb d_Ma_compute_150 ?_
            refine g_callVv (b := ad 3) (As := [.int (f_Ma_register G p2 24), .int ((G 4 ((f_Ma_register G p2 20).toNatClampNeg)) ^^^ (G 4 ((f_Ma_register G p2 16).toNatClampNeg)))]) (rest := []) hC hB (c_Ma_write_3 l G (f_Ma_register G p2 24) ((G 4 ((f_Ma_register G p2 20).toNatClampNeg)) ^^^ (G 4 ((f_Ma_register G p2 16).toNatClampNeg))) O hok.1) rfl key_Ma_write rfl ins_Ma_write sel_Ma_write ml_Ma_51 (g_rec3 hB) rfl hl.1 ⟨Nat.le_of_ble_eq_true rfl, Nat.le_of_ble_eq_true rfl, Nat.le_of_ble_eq_true rfl, Nat.le_of_ble_eq_true rfl⟩ d_Ma_compute_151 (fun H locs hB => ?_)
            have hok := hok.2
            refine lv_goto (tgt := 211) hx hb d_Ma_compute_154 (by decide) ?_
            exact g_vret hC hB hr hlk (by decide) (by decide) rfl hf d_Ma_compute_211
          · have hf := hf.trans (if_neg c6)
            have hok := hok.2 c6
            by_cases c7 : p1 = 10
            · have hf := hf.trans (if_pos c7)
              have hok := hok.1 c7
              refine g_switch (tgt := 157) hC d_Ma_compute_34 (fun i hi => by show i < 13; omega) (by rw [c7]; decide) ?_
              refine lv_aload_n hx hb d_Ma_compute_157 rfl (lv_at hl 3 rfl) ?_
              refine lv_iload_n hx hb d_Ma_compute_158 rfl (lv_at hl 2 rfl) ?_
              refine lv_iload hx hb d_Ma_compute_159 (lv_at hl 1 rfl) ?_
              refine lv_iload hx hb d_Ma_compute_161 (lv_at hl 0 rfl) ?_
              refine lv_bipush (v := 31) hx hb d_Ma_compute_163 (by decide) ?_
              refine lv_iand hx hb d_Ma_compute_165 ?_
              refine lv_iushr (v := g_ush (G 4 ((f_Ma_register G p2 20).toNatClampNeg)) ((G 4 ((f_Ma_register G p2 16).toNatClampNeg)) &&& 31)) hx hb d_Ma_compute_166 rfl ?_
              refine g_callVv (b := ad 3) (As := [.int (f_Ma_register G p2 24), .int (g_ush (G 4 ((f_Ma_register G p2 20).toNatClampNeg)) ((G 4 ((f_Ma_register G p2 16).toNatClampNeg)) &&& 31))]) (rest := []) hC hB (c_Ma_write_3 l G (f_Ma_register G p2 24) (g_ush (G 4 ((f_Ma_register G p2 20).toNatClampNeg)) ((G 4 ((f_Ma_register G p2 16).toNatClampNeg)) &&& 31)) O hok.1) rfl key_Ma_write rfl ins_Ma_write sel_Ma_write ml_Ma_51 (g_rec3 hB) rfl hl.1 ⟨Nat.le_of_ble_eq_true rfl, Nat.le_of_ble_eq_true rfl, Nat.le_of_ble_eq_true rfl, Nat.le_of_ble_eq_true rfl⟩ d_Ma_compute_167 (fun H locs hB => ?_)
              have hok := hok.2
              refine lv_goto (tgt := 211) hx hb d_Ma_compute_170 (by decide) ?_
              exact g_vret hC hB hr hlk (by decide) (by decide) rfl hf d_Ma_compute_211
            · have hf := hf.trans (if_neg c7)
              have hok := hok.2 c7
              by_cases c8 : p1 = 11
              · have hf := hf.trans (if_pos c8)
                have hok := hok.1 c8
                refine g_switch (tgt := 173) hC d_Ma_compute_34 (fun i hi => by show i < 13; omega) (by rw [c8]; decide) ?_
                refine lv_aload_n hx hb d_Ma_compute_173 rfl (lv_at hl 3 rfl) ?_
                refine lv_iload_n hx hb d_Ma_compute_174 rfl (lv_at hl 2 rfl) ?_
                refine lv_iload hx hb d_Ma_compute_175 (lv_at hl 1 rfl) ?_
                refine lv_iload hx hb d_Ma_compute_177 (lv_at hl 0 rfl) ?_
                refine lv_imul hx hb d_Ma_compute_179 ?_
                refine g_callVv (b := ad 3) (As := [.int (f_Ma_register G p2 24), .int ((G 4 ((f_Ma_register G p2 20).toNatClampNeg)) * (G 4 ((f_Ma_register G p2 16).toNatClampNeg)))]) (rest := []) hC hB (c_Ma_write_3 l G (f_Ma_register G p2 24) ((G 4 ((f_Ma_register G p2 20).toNatClampNeg)) * (G 4 ((f_Ma_register G p2 16).toNatClampNeg))) O hok.1) rfl key_Ma_write rfl ins_Ma_write sel_Ma_write ml_Ma_51 (g_rec3 hB) rfl hl.1 ⟨Nat.le_of_ble_eq_true rfl, Nat.le_of_ble_eq_true rfl, Nat.le_of_ble_eq_true rfl, Nat.le_of_ble_eq_true rfl⟩ d_Ma_compute_180 (fun H locs hB => ?_)
                have hok := hok.2
                refine lv_goto (tgt := 211) hx hb d_Ma_compute_183 (by decide) ?_
                exact g_vret hC hB hr hlk (by decide) (by decide) rfl hf d_Ma_compute_211
              · have hf := hf.trans (if_neg c8)
                have hok := hok.2 c8
                by_cases c9 : p1 = 12
                · have hf := hf.trans (if_pos c9)
                  have hok := hok.1 c9
                  refine g_switch (tgt := 186) hC d_Ma_compute_34 (fun i hi => by show i < 13; omega) (by rw [c9]; decide) ?_
                  refine lv_aload_n hx hb d_Ma_compute_186 rfl (lv_at hl 3 rfl) ?_
                  refine lv_iload_n hx hb d_Ma_compute_187 rfl (lv_at hl 2 rfl) ?_
                  refine lv_iload hx hb d_Ma_compute_188 (lv_at hl 1 rfl) ?_
                  refine lv_iload hx hb d_Ma_compute_190 (lv_at hl 0 rfl) ?_
                  refine lv_icmp_ge (tgt := 199) hx hb d_Ma_compute_192 (by decide) (fun c1 => ?_) (fun c1 => ?_)
                  · have hf := hf.trans (if_pos c1)
                    have hok := hok.1 c1
                    refine lv_iconst (v := 0) hx hb d_Ma_compute_199 (by decide) ?_
                    refine g_callVv (b := ad 3) (As := [.int (f_Ma_register G p2 24), .int 0]) (rest := []) hC hB (c_Ma_write_3 l G (f_Ma_register G p2 24) 0 O hok.1) rfl key_Ma_write rfl ins_Ma_write sel_Ma_write ml_Ma_51 (g_rec3 hB) rfl hl.1 ⟨Nat.le_of_ble_eq_true rfl, Nat.le_of_ble_eq_true rfl, Nat.le_of_ble_eq_true rfl, Nat.le_of_ble_eq_true rfl⟩ d_Ma_compute_200 (fun H locs hB => ?_)
                    have hok := hok.2
                    refine lv_goto (tgt := 211) hx hb d_Ma_compute_203 (by decide) ?_
                    exact g_vret hC hB hr hlk (by decide) (by decide) rfl hf d_Ma_compute_211
                  · have hf := hf.trans (if_neg c1)
                    have hok := hok.2 c1
                    refine lv_iconst (v := 1) hx hb d_Ma_compute_195 (by decide) ?_
                    refine lv_goto (tgt := 200) hx hb d_Ma_compute_196 (by decide) ?_
                    refine g_callVv (b := ad 3) (As := [.int (f_Ma_register G p2 24), .int 1]) (rest := []) hC hB (c_Ma_write_3 l G (f_Ma_register G p2 24) 1 O hok.1) rfl key_Ma_write rfl ins_Ma_write sel_Ma_write ml_Ma_51 (g_rec3 hB) rfl hl.1 ⟨Nat.le_of_ble_eq_true rfl, Nat.le_of_ble_eq_true rfl, Nat.le_of_ble_eq_true rfl, Nat.le_of_ble_eq_true rfl⟩ d_Ma_compute_200 (fun H locs hB => ?_)
                    have hok := hok.2
                    refine lv_goto (tgt := 211) hx hb d_Ma_compute_203 (by decide) ?_
                    exact g_vret hC hB hr hlk (by decide) (by decide) rfl hf d_Ma_compute_211
                · have hf := hf.trans (if_neg c9)
                  have hok := hok.2 c9
                  refine g_switch (tgt := 206) hC d_Ma_compute_34 (fun i hi => by show i < 13; omega) ?_ ?_
                  · have e0 := g_ne (k := 0) c2 (by decide)
                    have e1 := g_ne (k := 1) c3 (by decide)
                    have e2 := g_ne (k := 2) c4 (by decide)
                    have e3 := g_ne (k := 3) c5 (by decide)
                    have e4 := g_ne (k := 4) c6 (by decide)
                    have e5 := g_ne (k := 10) c7 (by decide)
                    have e6 := g_ne (k := 11) c8 (by decide)
                    have e7 := g_ne (k := 12) c9 (by decide)
                    have e : (p1).toInt < 0 ∨ (p1).toInt = 5 ∨ (p1).toInt = 6 ∨ (p1).toInt = 7 ∨ (p1).toInt = 8 ∨ (p1).toInt = 9 ∨ 12 < (p1).toInt := by omega
                    generalize (p1).toInt = z at e ⊢
                    rcases e with e | e | e | e | e | e | e
                    · rw [g_swt, if_pos (by omega)]; decide
                    · rw [e]; decide
                    · rw [e]; decide
                    · rw [e]; decide
                    · rw [e]; decide
                    · rw [e]; decide
                    · rw [g_swt, if_pos (by omega)]; decide
                  · refine lv_aload_n hx hb d_Ma_compute_206 rfl (lv_at hl 3 rfl) ?_
                    refine lv_iconst (v := 2) hx hb d_Ma_compute_207 (by decide) ?_
                    refine g_callVv (b := ad 3) (As := [.int 2]) (rest := []) hC hB (c_Ma_stop_3 l G 2 O) rfl key_Ma_stop rfl ins_Ma_stop sel_Ma_stop ml_Ma_73 (g_rec3 hB) rfl hl.1 ⟨Nat.le_of_ble_eq_true rfl, Nat.le_of_ble_eq_true rfl, Nat.le_of_ble_eq_true rfl, Nat.le_of_ble_eq_true rfl⟩ d_Ma_compute_208 (fun H locs hB => ?_)
                    exact g_vret hC hB hr hlk (by decide) (by decide) rfl hf d_Ma_compute_211
abbrev rm_Ma_advance_3 : Room := { frames := 2, cells := 0, slots := 0, locals := 32 }
def f_Ma_advance_3 (G : gT) (p3 : Int32) : Int32 × gT := (if (G 3 5) = 0 then (if (f_Ma_wouldWait_3 G p3) = 0 then (if (g_ush (G 1 ((G 3 1).toNatClampNeg)) 28) = 8 then (1, (g_up (f_Ma_write_3 (g_up (f_Ma_rememberBefore_3 G) 3 1 ((((f_Ma_rememberBefore_3 G) 3 1) + 1) &&& 63)) (f_Ma_register (g_up (f_Ma_rememberBefore_3 G) 3 1 ((((f_Ma_rememberBefore_3 G) 3 1) + 1) &&& 63)) (G 1 ((G 3 1).toNatClampNeg)) 24) ((f_Ma_rememberBefore_3 G) 2 (((f_Ma_rememberBefore_3 G) 3 2).toNatClampNeg))) 3 2 (((f_Ma_write_3 (g_up (f_Ma_rememberBefore_3 G) 3 1 ((((f_Ma_rememberBefore_3 G) 3 1) + 1) &&& 63)) (f_Ma_register (g_up (f_Ma_rememberBefore_3 G) 3 1 ((((f_Ma_rememberBefore_3 G) 3 1) + 1) &&& 63)) (G 1 ((G 3 1).toNatClampNeg)) 24) ((f_Ma_rememberBefore_3 G) 2 (((f_Ma_rememberBefore_3 G) 3 2).toNatClampNeg))) 3 2) + 1))) else (if (g_ush (G 1 ((G 3 1).toNatClampNeg)) 28) < 5 then (1, (f_Ma_compute_3 (g_up (f_Ma_rememberBefore_3 G) 3 1 ((((f_Ma_rememberBefore_3 G) 3 1) + 1) &&& 63)) (g_ush (G 1 ((G 3 1).toNatClampNeg)) 28) (G 1 ((G 3 1).toNatClampNeg)))) else (if 9 < (g_ush (G 1 ((G 3 1).toNatClampNeg)) 28) then (1, (f_Ma_compute_3 (g_up (f_Ma_rememberBefore_3 G) 3 1 ((((f_Ma_rememberBefore_3 G) 3 1) + 1) &&& 63)) (g_ush (G 1 ((G 3 1).toNatClampNeg)) 28) (G 1 ((G 3 1).toNatClampNeg)))) else (1, (f_Ma_moveNumbers_3 (g_up (f_Ma_rememberBefore_3 G) 3 1 ((((f_Ma_rememberBefore_3 G) 3 1) + 1) &&& 63)) (g_ush (G 1 ((G 3 1).toNatClampNeg)) 28) (G 1 ((G 3 1).toNatClampNeg))))))) else (0, G)) else (0, G))
def ok_Ma_advance_3 (G : gT) (p3 : Int32) : Prop := (((G 3 5) = 0 → (ok_Ma_wouldWait_3 G p3 ∧ (((f_Ma_wouldWait_3 G p3) = 0 → (vp_in (G 3 1) 64 ∧ (((g_ush (G 1 ((G 3 1).toNatClampNeg)) 28) = 8 → (vp_in ((f_Ma_rememberBefore_3 G) 3 2) 200 ∧ (ok_Ma_write_3 (g_up (f_Ma_rememberBefore_3 G) 3 1 ((((f_Ma_rememberBefore_3 G) 3 1) + 1) &&& 63)) (f_Ma_register (g_up (f_Ma_rememberBefore_3 G) 3 1 ((((f_Ma_rememberBefore_3 G) 3 1) + 1) &&& 63)) (G 1 ((G 3 1).toNatClampNeg)) 24) ((f_Ma_rememberBefore_3 G) 2 (((f_Ma_rememberBefore_3 G) 3 2).toNatClampNeg)) ∧ True))) ∧ (¬ (g_ush (G 1 ((G 3 1).toNatClampNeg)) 28) = 8 → (((g_ush (G 1 ((G 3 1).toNatClampNeg)) 28) < 5 → (ok_Ma_compute_3 (g_up (f_Ma_rememberBefore_3 G) 3 1 ((((f_Ma_rememberBefore_3 G) 3 1) + 1) &&& 63)) (g_ush (G 1 ((G 3 1).toNatClampNeg)) 28) (G 1 ((G 3 1).toNatClampNeg)) ∧ True)) ∧ (¬ (g_ush (G 1 ((G 3 1).toNatClampNeg)) 28) < 5 → ((9 < (g_ush (G 1 ((G 3 1).toNatClampNeg)) 28) → (ok_Ma_compute_3 (g_up (f_Ma_rememberBefore_3 G) 3 1 ((((f_Ma_rememberBefore_3 G) 3 1) + 1) &&& 63)) (g_ush (G 1 ((G 3 1).toNatClampNeg)) 28) (G 1 ((G 3 1).toNatClampNeg)) ∧ True)) ∧ (¬ 9 < (g_ush (G 1 ((G 3 1).toNatClampNeg)) 28) → (ok_Ma_moveNumbers_3 (g_up (f_Ma_rememberBefore_3 G) 3 1 ((((f_Ma_rememberBefore_3 G) 3 1) + 1) &&& 63)) (g_ush (G 1 ((G 3 1).toNatClampNeg)) 28) (G 1 ((G 3 1).toNatClampNeg)) ∧ True))))))))) ∧ (¬ (f_Ma_wouldWait_3 G p3) = 0 → True)))) ∧ (¬ (G 3 5) = 0 → True))
set_option maxHeartbeats 4000000 in
set_option maxRecDepth 100000 in
theorem c_Ma_advance_3 (l : Launch) (G : gT) (p3 : Int32) (O : Int64) (hok : ok_Ma_advance_3 G p3) : gMet l y_Ma_advance w_Ma_advance rm_Ma_advance_3 (fun ad => [.ref (ad 3), .ref (ad 1), .ref (ad 2), .int p3]) G O (.inl (some (.int (f_Ma_advance_3 G p3).1))) ((f_Ma_advance_3 G p3).2) O := by
  refine g_body (by decide) (gCode_of _ _ _ _) (fun ad => by simp [lg_sl, Value.category]) ?_
  intro p e s0 s m args below meth c D cI cL ad hC hr hlk htb hB ls hl
  have hC : CallFix p m c b_Ma_advance 6 s args gtb R_Ma := hC
  have hl : lv_has ls 6 [(0, .ref (ad 3)), (1, .ref (ad 1)), (2, .ref (ad 2)), (3, .int p3)] := hl
  have hx := hC.1
  have hb := hC.2.1
  have hf : f_Ma_advance_3 G p3 = (if (G 3 5) = 0 then (if (f_Ma_wouldWait_3 G p3) = 0 then (if (g_ush (G 1 ((G 3 1).toNatClampNeg)) 28) = 8 then (1, (g_up (f_Ma_write_3 (g_up (f_Ma_rememberBefore_3 G) 3 1 ((((f_Ma_rememberBefore_3 G) 3 1) + 1) &&& 63)) (f_Ma_register (g_up (f_Ma_rememberBefore_3 G) 3 1 ((((f_Ma_rememberBefore_3 G) 3 1) + 1) &&& 63)) (G 1 ((G 3 1).toNatClampNeg)) 24) ((f_Ma_rememberBefore_3 G) 2 (((f_Ma_rememberBefore_3 G) 3 2).toNatClampNeg))) 3 2 (((f_Ma_write_3 (g_up (f_Ma_rememberBefore_3 G) 3 1 ((((f_Ma_rememberBefore_3 G) 3 1) + 1) &&& 63)) (f_Ma_register (g_up (f_Ma_rememberBefore_3 G) 3 1 ((((f_Ma_rememberBefore_3 G) 3 1) + 1) &&& 63)) (G 1 ((G 3 1).toNatClampNeg)) 24) ((f_Ma_rememberBefore_3 G) 2 (((f_Ma_rememberBefore_3 G) 3 2).toNatClampNeg))) 3 2) + 1))) else (if (g_ush (G 1 ((G 3 1).toNatClampNeg)) 28) < 5 then (1, (f_Ma_compute_3 (g_up (f_Ma_rememberBefore_3 G) 3 1 ((((f_Ma_rememberBefore_3 G) 3 1) + 1) &&& 63)) (g_ush (G 1 ((G 3 1).toNatClampNeg)) 28) (G 1 ((G 3 1).toNatClampNeg)))) else (if 9 < (g_ush (G 1 ((G 3 1).toNatClampNeg)) 28) then (1, (f_Ma_compute_3 (g_up (f_Ma_rememberBefore_3 G) 3 1 ((((f_Ma_rememberBefore_3 G) 3 1) + 1) &&& 63)) (g_ush (G 1 ((G 3 1).toNatClampNeg)) 28) (G 1 ((G 3 1).toNatClampNeg)))) else (1, (f_Ma_moveNumbers_3 (g_up (f_Ma_rememberBefore_3 G) 3 1 ((((f_Ma_rememberBefore_3 G) 3 1) + 1) &&& 63)) (g_ush (G 1 ((G 3 1).toNatClampNeg)) 28) (G 1 ((G 3 1).toNatClampNeg))))))) else (0, G)) else (0, G)) := rfl
  have hok : (((G 3 5) = 0 → (ok_Ma_wouldWait_3 G p3 ∧ (((f_Ma_wouldWait_3 G p3) = 0 → (vp_in (G 3 1) 64 ∧ (((g_ush (G 1 ((G 3 1).toNatClampNeg)) 28) = 8 → (vp_in ((f_Ma_rememberBefore_3 G) 3 2) 200 ∧ (ok_Ma_write_3 (g_up (f_Ma_rememberBefore_3 G) 3 1 ((((f_Ma_rememberBefore_3 G) 3 1) + 1) &&& 63)) (f_Ma_register (g_up (f_Ma_rememberBefore_3 G) 3 1 ((((f_Ma_rememberBefore_3 G) 3 1) + 1) &&& 63)) (G 1 ((G 3 1).toNatClampNeg)) 24) ((f_Ma_rememberBefore_3 G) 2 (((f_Ma_rememberBefore_3 G) 3 2).toNatClampNeg)) ∧ True))) ∧ (¬ (g_ush (G 1 ((G 3 1).toNatClampNeg)) 28) = 8 → (((g_ush (G 1 ((G 3 1).toNatClampNeg)) 28) < 5 → (ok_Ma_compute_3 (g_up (f_Ma_rememberBefore_3 G) 3 1 ((((f_Ma_rememberBefore_3 G) 3 1) + 1) &&& 63)) (g_ush (G 1 ((G 3 1).toNatClampNeg)) 28) (G 1 ((G 3 1).toNatClampNeg)) ∧ True)) ∧ (¬ (g_ush (G 1 ((G 3 1).toNatClampNeg)) 28) < 5 → ((9 < (g_ush (G 1 ((G 3 1).toNatClampNeg)) 28) → (ok_Ma_compute_3 (g_up (f_Ma_rememberBefore_3 G) 3 1 ((((f_Ma_rememberBefore_3 G) 3 1) + 1) &&& 63)) (g_ush (G 1 ((G 3 1).toNatClampNeg)) 28) (G 1 ((G 3 1).toNatClampNeg)) ∧ True)) ∧ (¬ 9 < (g_ush (G 1 ((G 3 1).toNatClampNeg)) 28) → (ok_Ma_moveNumbers_3 (g_up (f_Ma_rememberBefore_3 G) 3 1 ((((f_Ma_rememberBefore_3 G) 3 1) + 1) &&& 63)) (g_ush (G 1 ((G 3 1).toNatClampNeg)) 28) (G 1 ((G 3 1).toNatClampNeg)) ∧ True))))))))) ∧ (¬ (f_Ma_wouldWait_3 G p3) = 0 → True)))) ∧ (¬ (G 3 5) = 0 → True)) := hok
  refine lv_aload_n hx hb d_Ma_advance_0 rfl (lv_at hl 0 rfl) ?_
  refine gg_3_5 (x := (G 3 5)) hC hB rfl fl_Ma_15 d_Ma_advance_1 ?_
  refine lv_if_ne (tgt := 16) hx hb d_Ma_advance_4 (by decide) (fun c1 => ?_) (fun c1 => ?_)
  · have hf := hf.trans (if_neg c1)
    have hok := hok.2 c1
    refine lv_iconst (v := 0) hx hb d_Ma_advance_16 (by decide) ?_
    exact g_zret hC hB hr hlk (by decide) (by decide) (by decide) (by rw [hf]) (by rw [hf]) d_Ma_advance_17
  · have hf := hf.trans (if_pos c1)
    have hok := hok.1 c1
    refine lv_aload_n hx hb d_Ma_advance_7 rfl (lv_at hl 0 rfl) ?_
    refine lv_aload_n hx hb d_Ma_advance_8 rfl (lv_at hl 1 rfl) ?_
    refine lv_iload_n hx hb d_Ma_advance_9 rfl (lv_at hl 3 rfl) ?_
    refine g_callVi (b := ad 3) (As := [.ref (ad 1), .int p3]) (rest := []) hC hB (c_Ma_wouldWait_3 l G p3 O hok.1) rfl key_Ma_wouldWait rfl ins_Ma_wouldWait sel_Ma_wouldWait ml_Ma_40 (g_rec3 hB) rfl hl.1 ⟨Nat.le_of_ble_eq_true rfl, Nat.le_of_ble_eq_true rfl, Nat.le_of_ble_eq_true rfl, Nat.le_of_ble_eq_true rfl⟩ d_Ma_advance_10 (fun H locs hB => ?_)
    have hok := hok.2
    refine lv_if_eq (tgt := 18) hx hb d_Ma_advance_13 (by decide) (fun c2 => ?_) (fun c2 => ?_)
    · have hf := hf.trans (if_pos c2)
      have hok := hok.1 c2
      refine lv_aload_n hx hb d_Ma_advance_18 rfl (lv_at hl 1 rfl) ?_
      refine lv_aload_n hx hb d_Ma_advance_19 rfl (lv_at hl 0 rfl) ?_
      refine gg_3_1 (x := (G 3 1)) hC hB rfl fl_Ma_28 d_Ma_advance_20 ?_
      refine ga_1 (x := (G 1 ((G 3 1).toNatClampNeg))) hC hB hok.1 rfl d_Ma_advance_23 ?_
      have hok := hok.2
      refine lv_istore (lv' := [(4, .int (G 1 ((G 3 1).toNatClampNeg))), (0, .ref (ad 3)), (1, .ref (ad 1)), (2, .ref (ad 2)), (3, .int p3)]) hx hb d_Ma_advance_24 hl (by decide) rfl (fun ls hl => ?_)
      refine lv_aload_n hx hb d_Ma_advance_26 rfl (lv_at hl 1 rfl) ?_
      refine g_callVv (b := ad 3) (As := []) (rest := []) hC hB (c_Ma_rememberBefore_3 l G O) rfl key_Ma_rememberBefore rfl ins_Ma_rememberBefore sel_Ma_rememberBefore ml_Ma_44 (g_rec3 hB) rfl hl.1 ⟨Nat.le_of_ble_eq_true rfl, Nat.le_of_ble_eq_true rfl, Nat.le_of_ble_eq_true rfl, Nat.le_of_ble_eq_true rfl⟩ d_Ma_advance_27 (fun H locs hB => ?_)
      refine lv_aload_n hx hb d_Ma_advance_30 rfl (lv_at hl 1 rfl) ?_
      refine lv_aload_n hx hb d_Ma_advance_31 rfl (lv_at hl 1 rfl) ?_
      refine gg_3_1 (x := ((f_Ma_rememberBefore_3 G) 3 1)) hC hB rfl fl_Ma_28 d_Ma_advance_32 ?_
      refine lv_iconst (v := 1) hx hb d_Ma_advance_35 (by decide) ?_
      refine lv_iadd hx hb d_Ma_advance_36 ?_
      refine lv_bipush (v := 63) hx hb d_Ma_advance_37 (by decide) ?_
      refine lv_iand hx hb d_Ma_advance_39 ?_
      refine gp_3_1 hC hB fl_Ma_28 d_Ma_advance_40 (fun H locs hB => ?_)
      refine lv_iload hx hb d_Ma_advance_43 (lv_at hl 0 rfl) ?_
      refine lv_bipush (v := 28) hx hb d_Ma_advance_45 (by decide) ?_
      refine lv_iushr (v := g_ush (G 1 ((G 3 1).toNatClampNeg)) 28) hx hb d_Ma_advance_47 rfl ?_
      refine lv_istore (lv' := [(5, .int (g_ush (G 1 ((G 3 1).toNatClampNeg)) 28)), (4, .int (G 1 ((G 3 1).toNatClampNeg))), (0, .ref (ad 3)), (1, .ref (ad 1)), (2, .ref (ad 2)), (3, .int p3)]) hx hb d_Ma_advance_48 hl (by decide) rfl (fun ls hl => ?_)
      refine lv_iload hx hb d_Ma_advance_50 (lv_at hl 0 rfl) ?_
      refine lv_bipush (v := 8) hx hb d_Ma_advance_52 (by decide) ?_
      refine lv_icmp_ne (tgt := 87) hx hb d_Ma_advance_54 (by decide) (fun c3 => ?_) (fun c3 => ?_)
      · have hf := hf.trans (if_neg c3)
        have hok := hok.2 c3
        refine lv_iload hx hb d_Ma_advance_87 (lv_at hl 0 rfl) ?_
        refine lv_iconst (v := 5) hx hb d_Ma_advance_89 (by decide) ?_
        refine lv_icmp_lt (tgt := 111) hx hb d_Ma_advance_90 (by decide) (fun c4 => ?_) (fun c4 => ?_)
        · have hf := hf.trans (if_pos c4)
          have hok := hok.1 c4
          refine lv_aload_n hx hb d_Ma_advance_111 rfl (lv_at hl 2 rfl) ?_
          refine lv_iload hx hb d_Ma_advance_112 (lv_at hl 0 rfl) ?_
          refine lv_iload hx hb d_Ma_advance_114 (lv_at hl 1 rfl) ?_
          refine g_callVv (b := ad 3) (As := [.int (g_ush (G 1 ((G 3 1).toNatClampNeg)) 28), .int (G 1 ((G 3 1).toNatClampNeg))]) (rest := []) hC hB (c_Ma_compute_3 l (g_up (f_Ma_rememberBefore_3 G) 3 1 ((((f_Ma_rememberBefore_3 G) 3 1) + 1) &&& 63)) (g_ush (G 1 ((G 3 1).toNatClampNeg)) 28) (G 1 ((G 3 1).toNatClampNeg)) O hok.1) rfl key_Ma_compute rfl ins_Ma_compute sel_Ma_compute ml_Ma_58 (g_rec3 hB) rfl hl.1 ⟨Nat.le_of_ble_eq_true rfl, Nat.le_of_ble_eq_true rfl, Nat.le_of_ble_eq_true rfl, Nat.le_of_ble_eq_true rfl⟩ d_Ma_advance_116 (fun H locs hB => ?_)
          have hok := hok.2
          refine lv_iconst (v := 1) hx hb d_Ma_advance_119 (by decide) ?_
          exact g_zret hC hB hr hlk (by decide) (by decide) (by decide) (by rw [hf]) (by rw [hf]) d_Ma_advance_120
        · have hf := hf.trans (if_neg c4)
          have hok := hok.2 c4
          refine lv_iload hx hb d_Ma_advance_93 (lv_at hl 0 rfl) ?_
          refine lv_bipush (v := 9) hx hb d_Ma_advance_95 (by decide) ?_
          refine lv_icmp_gt (tgt := 111) hx hb d_Ma_advance_97 (by decide) (fun c5 => ?_) (fun c5 => ?_)
          · have hf := hf.trans (if_pos c5)
            have hok := hok.1 c5
            refine lv_aload_n hx hb d_Ma_advance_111 rfl (lv_at hl 2 rfl) ?_
            refine lv_iload hx hb d_Ma_advance_112 (lv_at hl 0 rfl) ?_
            refine lv_iload hx hb d_Ma_advance_114 (lv_at hl 1 rfl) ?_
            refine g_callVv (b := ad 3) (As := [.int (g_ush (G 1 ((G 3 1).toNatClampNeg)) 28), .int (G 1 ((G 3 1).toNatClampNeg))]) (rest := []) hC hB (c_Ma_compute_3 l (g_up (f_Ma_rememberBefore_3 G) 3 1 ((((f_Ma_rememberBefore_3 G) 3 1) + 1) &&& 63)) (g_ush (G 1 ((G 3 1).toNatClampNeg)) 28) (G 1 ((G 3 1).toNatClampNeg)) O hok.1) rfl key_Ma_compute rfl ins_Ma_compute sel_Ma_compute ml_Ma_58 (g_rec3 hB) rfl hl.1 ⟨Nat.le_of_ble_eq_true rfl, Nat.le_of_ble_eq_true rfl, Nat.le_of_ble_eq_true rfl, Nat.le_of_ble_eq_true rfl⟩ d_Ma_advance_116 (fun H locs hB => ?_)
            have hok := hok.2
            refine lv_iconst (v := 1) hx hb d_Ma_advance_119 (by decide) ?_
            exact g_zret hC hB hr hlk (by decide) (by decide) (by decide) (by rw [hf]) (by rw [hf]) d_Ma_advance_120
          · have hf := hf.trans (if_neg c5)
            have hok := hok.2 c5
            refine lv_aload_n hx hb d_Ma_advance_100 rfl (lv_at hl 2 rfl) ?_
            refine lv_iload hx hb d_Ma_advance_101 (lv_at hl 0 rfl) ?_
            refine lv_iload hx hb d_Ma_advance_103 (lv_at hl 1 rfl) ?_
            refine g_callVv (b := ad 3) (As := [.int (g_ush (G 1 ((G 3 1).toNatClampNeg)) 28), .int (G 1 ((G 3 1).toNatClampNeg))]) (rest := []) hC hB (c_Ma_moveNumbers_3 l (g_up (f_Ma_rememberBefore_3 G) 3 1 ((((f_Ma_rememberBefore_3 G) 3 1) + 1) &&& 63)) (g_ush (G 1 ((G 3 1).toNatClampNeg)) 28) (G 1 ((G 3 1).toNatClampNeg)) O hok.1) rfl key_Ma_moveNumbers rfl ins_Ma_moveNumbers sel_Ma_moveNumbers ml_Ma_55 (g_rec3 hB) rfl hl.1 ⟨Nat.le_of_ble_eq_true rfl, Nat.le_of_ble_eq_true rfl, Nat.le_of_ble_eq_true rfl, Nat.le_of_ble_eq_true rfl⟩ d_Ma_advance_105 (fun H locs hB => ?_)
            have hok := hok.2
            refine lv_goto (tgt := 119) hx hb d_Ma_advance_108 (by decide) ?_
            refine lv_iconst (v := 1) hx hb d_Ma_advance_119 (by decide) ?_
            exact g_zret hC hB hr hlk (by decide) (by decide) (by decide) (by rw [hf]) (by rw [hf]) d_Ma_advance_120
      · have hf := hf.trans (if_pos c3)
        have hok := hok.1 c3
        refine lv_aload_n hx hb d_Ma_advance_57 rfl (lv_at hl 2 rfl) ?_
        refine lv_iload hx hb d_Ma_advance_58 (lv_at hl 1 rfl) ?_
        refine lv_bipush (v := 24) hx hb d_Ma_advance_60 (by decide) ?_
        refine g_callSi (As := [.int (G 1 ((G 3 1).toNatClampNeg)), .int 24]) (rest := [.ref (ad 3)]) hC hB (c_Ma_register l (g_up (f_Ma_rememberBefore_3 G) 3 1 ((((f_Ma_rememberBefore_3 G) 3 1) + 1) &&& 63)) (G 1 ((G 3 1).toNatClampNeg)) 24 O) rfl key_Ma_register rfl sta_Ma_register ml_Ma_47 rfl hl.1 ⟨Nat.le_of_ble_eq_true rfl, Nat.le_of_ble_eq_true rfl, Nat.le_of_ble_eq_true rfl, Nat.le_of_ble_eq_true rfl⟩ d_Ma_advance_62 (fun H locs hB => ?_)
        refine lv_aload_n hx hb d_Ma_advance_65 rfl (lv_at hl 4 rfl) ?_
        refine lv_aload_n hx hb d_Ma_advance_66 rfl (lv_at hl 2 rfl) ?_
        refine gg_3_2 (x := ((f_Ma_rememberBefore_3 G) 3 2)) hC hB rfl fl_Ma_31 d_Ma_advance_67 ?_
        refine ga_2 (x := ((f_Ma_rememberBefore_3 G) 2 (((f_Ma_rememberBefore_3 G) 3 2).toNatClampNeg))) hC hB hok.1 rfl d_Ma_advance_70 ?_
        have hok := hok.2
        refine g_callVv (b := ad 3) (As := [.int (f_Ma_register (g_up (f_Ma_rememberBefore_3 G) 3 1 ((((f_Ma_rememberBefore_3 G) 3 1) + 1) &&& 63)) (G 1 ((G 3 1).toNatClampNeg)) 24), .int ((f_Ma_rememberBefore_3 G) 2 (((f_Ma_rememberBefore_3 G) 3 2).toNatClampNeg))]) (rest := []) hC hB (c_Ma_write_3 l (g_up (f_Ma_rememberBefore_3 G) 3 1 ((((f_Ma_rememberBefore_3 G) 3 1) + 1) &&& 63)) (f_Ma_register (g_up (f_Ma_rememberBefore_3 G) 3 1 ((((f_Ma_rememberBefore_3 G) 3 1) + 1) &&& 63)) (G 1 ((G 3 1).toNatClampNeg)) 24) ((f_Ma_rememberBefore_3 G) 2 (((f_Ma_rememberBefore_3 G) 3 2).toNatClampNeg)) O hok.1) rfl key_Ma_write rfl ins_Ma_write sel_Ma_write ml_Ma_51 (g_rec3 hB) rfl hl.1 ⟨Nat.le_of_ble_eq_true rfl, Nat.le_of_ble_eq_true rfl, Nat.le_of_ble_eq_true rfl, Nat.le_of_ble_eq_true rfl⟩ d_Ma_advance_71 (fun H locs hB => ?_)
        have hok := hok.2
        refine lv_aload_n hx hb d_Ma_advance_74 rfl (lv_at hl 2 rfl) ?_
        refine lv_dup hx hb d_Ma_advance_75 rfl ?_
        refine gg_3_2 (x := ((f_Ma_write_3 (g_up (f_Ma_rememberBefore_3 G) 3 1 ((((f_Ma_rememberBefore_3 G) 3 1) + 1) &&& 63)) (f_Ma_register (g_up (f_Ma_rememberBefore_3 G) 3 1 ((((f_Ma_rememberBefore_3 G) 3 1) + 1) &&& 63)) (G 1 ((G 3 1).toNatClampNeg)) 24) ((f_Ma_rememberBefore_3 G) 2 (((f_Ma_rememberBefore_3 G) 3 2).toNatClampNeg))) 3 2)) hC hB rfl fl_Ma_31 d_Ma_advance_76 ?_
        refine lv_iconst (v := 1) hx hb d_Ma_advance_79 (by decide) ?_
        refine lv_iadd hx hb d_Ma_advance_80 ?_
        refine gp_3_2 hC hB fl_Ma_31 d_Ma_advance_81 (fun H locs hB => ?_)
        refine lv_goto (tgt := 119) hx hb d_Ma_advance_84 (by decide) ?_
        refine lv_iconst (v := 1) hx hb d_Ma_advance_119 (by decide) ?_
        exact g_zret hC hB hr hlk (by decide) (by decide) (by decide) (by rw [hf]) (by rw [hf]) d_Ma_advance_120
    · have hf := hf.trans (if_neg c2)
      have hok := hok.2 c2
      refine lv_iconst (v := 0) hx hb d_Ma_advance_16 (by decide) ?_
      exact g_zret hC hB hr hlk (by decide) (by decide) (by decide) (by rw [hf]) (by rw [hf]) d_Ma_advance_17
abbrev rm_Ma_changedNumber_3 : Room := { frames := 0, cells := 0, slots := 0, locals := 0 }
def f_Ma_changedNumber_3 (G : gT) : Int32 := (if (G 3 6) = (-1) then 0 else (if (G 4 ((G 3 6).toNatClampNeg)) = (G 3 7) then 0 else 1))
def ok_Ma_changedNumber_3 (G : gT) : Prop := (((G 3 6) = (-1) → True) ∧ (¬ (G 3 6) = (-1) → (vp_in (G 3 6) 264 ∧ True)))
set_option maxHeartbeats 4000000 in
set_option maxRecDepth 100000 in
theorem c_Ma_changedNumber_3 (l : Launch) (G : gT) (O : Int64) (hok : ok_Ma_changedNumber_3 G) : gMet l y_Ma_changedNumber w_Ma_changedNumber rm_Ma_changedNumber_3 (fun ad => [.ref (ad 3)]) G O (.inl (some (.int (f_Ma_changedNumber_3 G)))) G O := by
  refine g_body (by decide) (gCode_of _ _ _ _) (fun ad => by simp [lg_sl, Value.category]) ?_
  intro p e s0 s m args below meth c D cI cL ad hC hr hlk htb hB ls hl
  have hC : CallFix p m c b_Ma_changedNumber 1 s args gtb R_Ma := hC
  have hl : lv_has ls 1 [(0, .ref (ad 3))] := hl
  have hx := hC.1
  have hb := hC.2.1
  have hf : f_Ma_changedNumber_3 G = (if (G 3 6) = (-1) then 0 else (if (G 4 ((G 3 6).toNatClampNeg)) = (G 3 7) then 0 else 1)) := rfl
  have hok : (((G 3 6) = (-1) → True) ∧ (¬ (G 3 6) = (-1) → (vp_in (G 3 6) 264 ∧ True))) := hok
  refine lv_aload_n hx hb d_Ma_changedNumber_0 rfl (lv_at hl 0 rfl) ?_
  refine gg_3_6 (x := (G 3 6)) hC hB rfl fl_Ma_19 d_Ma_changedNumber_1 ?_
  refine lv_iconst (v := (-1)) hx hb d_Ma_changedNumber_4 (by decide) ?_
  refine lv_icmp_eq (tgt := 28) hx hb d_Ma_changedNumber_5 (by decide) (fun c1 => ?_) (fun c1 => ?_)
  · have hf := hf.trans (if_pos c1)
    have hok := hok.1 c1
    refine lv_iconst (v := 0) hx hb d_Ma_changedNumber_28 (by decide) ?_
    exact g_zret hC hB hr hlk (by decide) (by decide) (by decide) (by rw [hf]) rfl d_Ma_changedNumber_29
  · have hf := hf.trans (if_neg c1)
    have hok := hok.2 c1
    refine lv_aload_n hx hb d_Ma_changedNumber_8 rfl (lv_at hl 0 rfl) ?_
    refine gr_3_0 hC hB fl_Ma_9 d_Ma_changedNumber_9 ?_
    refine lv_aload_n hx hb d_Ma_changedNumber_12 rfl (lv_at hl 0 rfl) ?_
    refine gg_3_6 (x := (G 3 6)) hC hB rfl fl_Ma_19 d_Ma_changedNumber_13 ?_
    refine ga_4 (x := (G 4 ((G 3 6).toNatClampNeg))) hC hB hok.1 rfl d_Ma_changedNumber_16 ?_
    have hok := hok.2
    refine lv_aload_n hx hb d_Ma_changedNumber_17 rfl (lv_at hl 0 rfl) ?_
    refine gg_3_7 (x := (G 3 7)) hC hB rfl fl_Ma_77 d_Ma_changedNumber_18 ?_
    refine lv_icmp_eq (tgt := 28) hx hb d_Ma_changedNumber_21 (by decide) (fun c2 => ?_) (fun c2 => ?_)
    · have hf := hf.trans (if_pos c2)
      refine lv_iconst (v := 0) hx hb d_Ma_changedNumber_28 (by decide) ?_
      exact g_zret hC hB hr hlk (by decide) (by decide) (by decide) (by rw [hf]) rfl d_Ma_changedNumber_29
    · have hf := hf.trans (if_neg c2)
      refine lv_iconst (v := 1) hx hb d_Ma_changedNumber_24 (by decide) ?_
      refine lv_goto (tgt := 29) hx hb d_Ma_changedNumber_25 (by decide) ?_
      exact g_zret hC hB hr hlk (by decide) (by decide) (by decide) (by rw [hf]) rfl d_Ma_changedNumber_29
abbrev rm_Ma_costOfLatest_3 : Room := { frames := 1, cells := 0, slots := 0, locals := 12 }
def f_Ma_costOfLatest_3 (G : gT) : Int32 := (if (f_Ma_changedNumber_3 G) = 0 then (if (G 3 1) = (((G 3 8) + 1) &&& 63) then (if (G 3 2) = (G 3 9) then (if (G 3 3) = (G 3 10) then 1 else 1 + 1) else (if (G 3 3) = (G 3 10) then 1 + 1 else (1 + 1) + 1)) else (if (G 3 2) = (G 3 9) then (if (G 3 3) = (G 3 10) then 1 + 1 else (1 + 1) + 1) else (if (G 3 3) = (G 3 10) then (1 + 1) + 1 else ((1 + 1) + 1) + 1))) else (if (G 3 1) = (((G 3 8) + 1) &&& 63) then (if (G 3 2) = (G 3 9) then (if (G 3 3) = (G 3 10) then 1 + 1 else (1 + 1) + 1) else (if (G 3 3) = (G 3 10) then (1 + 1) + 1 else ((1 + 1) + 1) + 1)) else (if (G 3 2) = (G 3 9) then (if (G 3 3) = (G 3 10) then (1 + 1) + 1 else ((1 + 1) + 1) + 1) else (if (G 3 3) = (G 3 10) then ((1 + 1) + 1) + 1 else (((1 + 1) + 1) + 1) + 1))))
def ok_Ma_costOfLatest_3 (G : gT) : Prop := (ok_Ma_changedNumber_3 G ∧ True)
set_option maxHeartbeats 4000000 in
set_option maxRecDepth 100000 in
theorem c_Ma_costOfLatest_3 (l : Launch) (G : gT) (O : Int64) (hok : ok_Ma_costOfLatest_3 G) : gMet l y_Ma_costOfLatest w_Ma_costOfLatest rm_Ma_costOfLatest_3 (fun ad => [.ref (ad 3)]) G O (.inl (some (.int (f_Ma_costOfLatest_3 G)))) G O := by
  refine g_body (by decide) (gCode_of _ _ _ _) (fun ad => by simp [lg_sl, Value.category]) ?_
  intro p e s0 s m args below meth c D cI cL ad hC hr hlk htb hB ls hl
  have hC : CallFix p m c b_Ma_costOfLatest 2 s args gtb R_Ma := hC
  have hl : lv_has ls 2 [(0, .ref (ad 3))] := hl
  have hx := hC.1
  have hb := hC.2.1
  have hf : f_Ma_costOfLatest_3 G = (if (f_Ma_changedNumber_3 G) = 0 then (if (G 3 1) = (((G 3 8) + 1) &&& 63) then (if (G 3 2) = (G 3 9) then (if (G 3 3) = (G 3 10) then 1 else 1 + 1) else (if (G 3 3) = (G 3 10) then 1 + 1 else (1 + 1) + 1)) else (if (G 3 2) = (G 3 9) then (if (G 3 3) = (G 3 10) then 1 + 1 else (1 + 1) + 1) else (if (G 3 3) = (G 3 10) then (1 + 1) + 1 else ((1 + 1) + 1) + 1))) else (if (G 3 1) = (((G 3 8) + 1) &&& 63) then (if (G 3 2) = (G 3 9) then (if (G 3 3) = (G 3 10) then 1 + 1 else (1 + 1) + 1) else (if (G 3 3) = (G 3 10) then (1 + 1) + 1 else ((1 + 1) + 1) + 1)) else (if (G 3 2) = (G 3 9) then (if (G 3 3) = (G 3 10) then (1 + 1) + 1 else ((1 + 1) + 1) + 1) else (if (G 3 3) = (G 3 10) then ((1 + 1) + 1) + 1 else (((1 + 1) + 1) + 1) + 1)))) := rfl
  have hok : (ok_Ma_changedNumber_3 G ∧ True) := hok
  refine lv_iconst (v := 1) hx hb d_Ma_costOfLatest_0 (by decide) ?_
  refine lv_istore_n (lv' := [(1, .int 1), (0, .ref (ad 3))]) hx hb d_Ma_costOfLatest_1 rfl hl (by decide) rfl (fun ls hl => ?_)
  refine lv_aload_n hx hb d_Ma_costOfLatest_2 rfl (lv_at hl 1 rfl) ?_
  refine g_callVi (b := ad 3) (As := []) (rest := []) hC hB (c_Ma_changedNumber_3 l G O hok.1) rfl key_Ma_changedNumber rfl ins_Ma_changedNumber sel_Ma_changedNumber ml_Ma_80 (g_rec3 hB) rfl hl.1 ⟨Nat.le_of_ble_eq_true rfl, Nat.le_of_ble_eq_true rfl, Nat.le_of_ble_eq_true rfl, Nat.le_of_ble_eq_true rfl⟩ d_Ma_costOfLatest_3 (fun H locs hB => ?_)
  have hok := hok.2
  refine lv_if_eq (tgt := 12) hx hb d_Ma_costOfLatest_6 (by decide) (fun c1 => ?_) (fun c1 => ?_)
  · have hf := hf.trans (if_pos c1)
    refine lv_aload_n hx hb d_Ma_costOfLatest_12 rfl (lv_at hl 1 rfl) ?_
    refine gg_3_1 (x := (G 3 1)) hC hB rfl fl_Ma_28 d_Ma_costOfLatest_13 ?_
    refine lv_aload_n hx hb d_Ma_costOfLatest_16 rfl (lv_at hl 1 rfl) ?_
    refine gg_3_8 (x := (G 3 8)) hC hB rfl fl_Ma_61 d_Ma_costOfLatest_17 ?_
    refine lv_iconst (v := 1) hx hb d_Ma_costOfLatest_20 (by decide) ?_
    refine lv_iadd hx hb d_Ma_costOfLatest_21 ?_
    refine lv_bipush (v := 63) hx hb d_Ma_costOfLatest_22 (by decide) ?_
    refine lv_iand hx hb d_Ma_costOfLatest_24 ?_
    refine lv_icmp_eq (tgt := 31) hx hb d_Ma_costOfLatest_25 (by decide) (fun c2 => ?_) (fun c2 => ?_)
    · have hf := hf.trans (if_pos c2)
      refine lv_aload_n hx hb d_Ma_costOfLatest_31 rfl (lv_at hl 1 rfl) ?_
      refine gg_3_2 (x := (G 3 2)) hC hB rfl fl_Ma_31 d_Ma_costOfLatest_32 ?_
      refine lv_aload_n hx hb d_Ma_costOfLatest_35 rfl (lv_at hl 1 rfl) ?_
      refine gg_3_9 (x := (G 3 9)) hC hB rfl fl_Ma_64 d_Ma_costOfLatest_36 ?_
      refine lv_icmp_eq (tgt := 45) hx hb d_Ma_costOfLatest_39 (by decide) (fun c3 => ?_) (fun c3 => ?_)
      · have hf := hf.trans (if_pos c3)
        refine lv_aload_n hx hb d_Ma_costOfLatest_45 rfl (lv_at hl 1 rfl) ?_
        refine gg_3_3 (x := (G 3 3)) hC hB rfl fl_Ma_34 d_Ma_costOfLatest_46 ?_
        refine lv_aload_n hx hb d_Ma_costOfLatest_49 rfl (lv_at hl 1 rfl) ?_
        refine gg_3_10 (x := (G 3 10)) hC hB rfl fl_Ma_67 d_Ma_costOfLatest_50 ?_
        refine lv_icmp_eq (tgt := 59) hx hb d_Ma_costOfLatest_53 (by decide) (fun c4 => ?_) (fun c4 => ?_)
        · have hf := hf.trans (if_pos c4)
          refine lv_iload_n hx hb d_Ma_costOfLatest_59 rfl (lv_at hl 0 rfl) ?_
          exact g_iret hC hB hr hlk (by decide) (by decide) (by rw [hf]) rfl d_Ma_costOfLatest_60
        · have hf := hf.trans (if_neg c4)
          refine lv_iinc (v := 1 + 1) (lv' := [(1, .int (1 + 1)), (0, .ref (ad 3))]) hx hb d_Ma_costOfLatest_56 hl (k := 0) rfl rfl (by decide) rfl (fun ls hl => ?_)
          refine lv_iload_n hx hb d_Ma_costOfLatest_59 rfl (lv_at hl 0 rfl) ?_
          exact g_iret hC hB hr hlk (by decide) (by decide) (by rw [hf]) rfl d_Ma_costOfLatest_60
      · have hf := hf.trans (if_neg c3)
        refine lv_iinc (v := 1 + 1) (lv' := [(1, .int (1 + 1)), (0, .ref (ad 3))]) hx hb d_Ma_costOfLatest_42 hl (k := 0) rfl rfl (by decide) rfl (fun ls hl => ?_)
        refine lv_aload_n hx hb d_Ma_costOfLatest_45 rfl (lv_at hl 1 rfl) ?_
        refine gg_3_3 (x := (G 3 3)) hC hB rfl fl_Ma_34 d_Ma_costOfLatest_46 ?_
        refine lv_aload_n hx hb d_Ma_costOfLatest_49 rfl (lv_at hl 1 rfl) ?_
        refine gg_3_10 (x := (G 3 10)) hC hB rfl fl_Ma_67 d_Ma_costOfLatest_50 ?_
        refine lv_icmp_eq (tgt := 59) hx hb d_Ma_costOfLatest_53 (by decide) (fun c5 => ?_) (fun c5 => ?_)
        · have hf := hf.trans (if_pos c5)
          refine lv_iload_n hx hb d_Ma_costOfLatest_59 rfl (lv_at hl 0 rfl) ?_
          exact g_iret hC hB hr hlk (by decide) (by decide) (by rw [hf]) rfl d_Ma_costOfLatest_60
        · have hf := hf.trans (if_neg c5)
          refine lv_iinc (v := (1 + 1) + 1) (lv' := [(1, .int ((1 + 1) + 1)), (0, .ref (ad 3))]) hx hb d_Ma_costOfLatest_56 hl (k := 0) rfl rfl (by decide) rfl (fun ls hl => ?_)
          refine lv_iload_n hx hb d_Ma_costOfLatest_59 rfl (lv_at hl 0 rfl) ?_
          exact g_iret hC hB hr hlk (by decide) (by decide) (by rw [hf]) rfl d_Ma_costOfLatest_60
    · have hf := hf.trans (if_neg c2)
      refine lv_iinc (v := 1 + 1) (lv' := [(1, .int (1 + 1)), (0, .ref (ad 3))]) hx hb d_Ma_costOfLatest_28 hl (k := 0) rfl rfl (by decide) rfl (fun ls hl => ?_)
      refine lv_aload_n hx hb d_Ma_costOfLatest_31 rfl (lv_at hl 1 rfl) ?_
      refine gg_3_2 (x := (G 3 2)) hC hB rfl fl_Ma_31 d_Ma_costOfLatest_32 ?_
      refine lv_aload_n hx hb d_Ma_costOfLatest_35 rfl (lv_at hl 1 rfl) ?_
      refine gg_3_9 (x := (G 3 9)) hC hB rfl fl_Ma_64 d_Ma_costOfLatest_36 ?_
      refine lv_icmp_eq (tgt := 45) hx hb d_Ma_costOfLatest_39 (by decide) (fun c6 => ?_) (fun c6 => ?_)
      · have hf := hf.trans (if_pos c6)
        refine lv_aload_n hx hb d_Ma_costOfLatest_45 rfl (lv_at hl 1 rfl) ?_
        refine gg_3_3 (x := (G 3 3)) hC hB rfl fl_Ma_34 d_Ma_costOfLatest_46 ?_
        refine lv_aload_n hx hb d_Ma_costOfLatest_49 rfl (lv_at hl 1 rfl) ?_
        refine gg_3_10 (x := (G 3 10)) hC hB rfl fl_Ma_67 d_Ma_costOfLatest_50 ?_
        refine lv_icmp_eq (tgt := 59) hx hb d_Ma_costOfLatest_53 (by decide) (fun c7 => ?_) (fun c7 => ?_)
        · have hf := hf.trans (if_pos c7)
          refine lv_iload_n hx hb d_Ma_costOfLatest_59 rfl (lv_at hl 0 rfl) ?_
          exact g_iret hC hB hr hlk (by decide) (by decide) (by rw [hf]) rfl d_Ma_costOfLatest_60
        · have hf := hf.trans (if_neg c7)
          refine lv_iinc (v := (1 + 1) + 1) (lv' := [(1, .int ((1 + 1) + 1)), (0, .ref (ad 3))]) hx hb d_Ma_costOfLatest_56 hl (k := 0) rfl rfl (by decide) rfl (fun ls hl => ?_)
          refine lv_iload_n hx hb d_Ma_costOfLatest_59 rfl (lv_at hl 0 rfl) ?_
          exact g_iret hC hB hr hlk (by decide) (by decide) (by rw [hf]) rfl d_Ma_costOfLatest_60
      · have hf := hf.trans (if_neg c6)
        refine lv_iinc (v := (1 + 1) + 1) (lv' := [(1, .int ((1 + 1) + 1)), (0, .ref (ad 3))]) hx hb d_Ma_costOfLatest_42 hl (k := 0) rfl rfl (by decide) rfl (fun ls hl => ?_)
        refine lv_aload_n hx hb d_Ma_costOfLatest_45 rfl (lv_at hl 1 rfl) ?_
        refine gg_3_3 (x := (G 3 3)) hC hB rfl fl_Ma_34 d_Ma_costOfLatest_46 ?_
        refine lv_aload_n hx hb d_Ma_costOfLatest_49 rfl (lv_at hl 1 rfl) ?_
        refine gg_3_10 (x := (G 3 10)) hC hB rfl fl_Ma_67 d_Ma_costOfLatest_50 ?_
        refine lv_icmp_eq (tgt := 59) hx hb d_Ma_costOfLatest_53 (by decide) (fun c8 => ?_) (fun c8 => ?_)
        · have hf := hf.trans (if_pos c8)
          refine lv_iload_n hx hb d_Ma_costOfLatest_59 rfl (lv_at hl 0 rfl) ?_
          exact g_iret hC hB hr hlk (by decide) (by decide) (by rw [hf]) rfl d_Ma_costOfLatest_60
        · have hf := hf.trans (if_neg c8)
          refine lv_iinc (v := ((1 + 1) + 1) + 1) (lv' := [(1, .int (((1 + 1) + 1) + 1)), (0, .ref (ad 3))]) hx hb d_Ma_costOfLatest_56 hl (k := 0) rfl rfl (by decide) rfl (fun ls hl => ?_)
          refine lv_iload_n hx hb d_Ma_costOfLatest_59 rfl (lv_at hl 0 rfl) ?_
          exact g_iret hC hB hr hlk (by decide) (by decide) (by rw [hf]) rfl d_Ma_costOfLatest_60
  · have hf := hf.trans (if_neg c1)
    refine lv_iinc (v := 1 + 1) (lv' := [(1, .int (1 + 1)), (0, .ref (ad 3))]) hx hb d_Ma_costOfLatest_9 hl (k := 0) rfl rfl (by decide) rfl (fun ls hl => ?_)
    refine lv_aload_n hx hb d_Ma_costOfLatest_12 rfl (lv_at hl 1 rfl) ?_
    refine gg_3_1 (x := (G 3 1)) hC hB rfl fl_Ma_28 d_Ma_costOfLatest_13 ?_
    refine lv_aload_n hx hb d_Ma_costOfLatest_16 rfl (lv_at hl 1 rfl) ?_
    refine gg_3_8 (x := (G 3 8)) hC hB rfl fl_Ma_61 d_Ma_costOfLatest_17 ?_
    refine lv_iconst (v := 1) hx hb d_Ma_costOfLatest_20 (by decide) ?_
    refine lv_iadd hx hb d_Ma_costOfLatest_21 ?_
    refine lv_bipush (v := 63) hx hb d_Ma_costOfLatest_22 (by decide) ?_
    refine lv_iand hx hb d_Ma_costOfLatest_24 ?_
    refine lv_icmp_eq (tgt := 31) hx hb d_Ma_costOfLatest_25 (by decide) (fun c9 => ?_) (fun c9 => ?_)
    · have hf := hf.trans (if_pos c9)
      refine lv_aload_n hx hb d_Ma_costOfLatest_31 rfl (lv_at hl 1 rfl) ?_
      refine gg_3_2 (x := (G 3 2)) hC hB rfl fl_Ma_31 d_Ma_costOfLatest_32 ?_
      refine lv_aload_n hx hb d_Ma_costOfLatest_35 rfl (lv_at hl 1 rfl) ?_
      refine gg_3_9 (x := (G 3 9)) hC hB rfl fl_Ma_64 d_Ma_costOfLatest_36 ?_
      refine lv_icmp_eq (tgt := 45) hx hb d_Ma_costOfLatest_39 (by decide) (fun c10 => ?_) (fun c10 => ?_)
      · have hf := hf.trans (if_pos c10)
        refine lv_aload_n hx hb d_Ma_costOfLatest_45 rfl (lv_at hl 1 rfl) ?_
        refine gg_3_3 (x := (G 3 3)) hC hB rfl fl_Ma_34 d_Ma_costOfLatest_46 ?_
        refine lv_aload_n hx hb d_Ma_costOfLatest_49 rfl (lv_at hl 1 rfl) ?_
        refine gg_3_10 (x := (G 3 10)) hC hB rfl fl_Ma_67 d_Ma_costOfLatest_50 ?_
        refine lv_icmp_eq (tgt := 59) hx hb d_Ma_costOfLatest_53 (by decide) (fun c11 => ?_) (fun c11 => ?_)
        · have hf := hf.trans (if_pos c11)
          refine lv_iload_n hx hb d_Ma_costOfLatest_59 rfl (lv_at hl 0 rfl) ?_
          exact g_iret hC hB hr hlk (by decide) (by decide) (by rw [hf]) rfl d_Ma_costOfLatest_60
        · have hf := hf.trans (if_neg c11)
          refine lv_iinc (v := (1 + 1) + 1) (lv' := [(1, .int ((1 + 1) + 1)), (0, .ref (ad 3))]) hx hb d_Ma_costOfLatest_56 hl (k := 0) rfl rfl (by decide) rfl (fun ls hl => ?_)
          refine lv_iload_n hx hb d_Ma_costOfLatest_59 rfl (lv_at hl 0 rfl) ?_
          exact g_iret hC hB hr hlk (by decide) (by decide) (by rw [hf]) rfl d_Ma_costOfLatest_60
      · have hf := hf.trans (if_neg c10)
        refine lv_iinc (v := (1 + 1) + 1) (lv' := [(1, .int ((1 + 1) + 1)), (0, .ref (ad 3))]) hx hb d_Ma_costOfLatest_42 hl (k := 0) rfl rfl (by decide) rfl (fun ls hl => ?_)
        refine lv_aload_n hx hb d_Ma_costOfLatest_45 rfl (lv_at hl 1 rfl) ?_
        refine gg_3_3 (x := (G 3 3)) hC hB rfl fl_Ma_34 d_Ma_costOfLatest_46 ?_
        refine lv_aload_n hx hb d_Ma_costOfLatest_49 rfl (lv_at hl 1 rfl) ?_
        refine gg_3_10 (x := (G 3 10)) hC hB rfl fl_Ma_67 d_Ma_costOfLatest_50 ?_
        refine lv_icmp_eq (tgt := 59) hx hb d_Ma_costOfLatest_53 (by decide) (fun c12 => ?_) (fun c12 => ?_)
        · have hf := hf.trans (if_pos c12)
          refine lv_iload_n hx hb d_Ma_costOfLatest_59 rfl (lv_at hl 0 rfl) ?_
          exact g_iret hC hB hr hlk (by decide) (by decide) (by rw [hf]) rfl d_Ma_costOfLatest_60
        · have hf := hf.trans (if_neg c12)
          refine lv_iinc (v := ((1 + 1) + 1) + 1) (lv' := [(1, .int (((1 + 1) + 1) + 1)), (0, .ref (ad 3))]) hx hb d_Ma_costOfLatest_56 hl (k := 0) rfl rfl (by decide) rfl (fun ls hl => ?_)
          refine lv_iload_n hx hb d_Ma_costOfLatest_59 rfl (lv_at hl 0 rfl) ?_
          exact g_iret hC hB hr hlk (by decide) (by decide) (by rw [hf]) rfl d_Ma_costOfLatest_60
    · have hf := hf.trans (if_neg c9)
      refine lv_iinc (v := (1 + 1) + 1) (lv' := [(1, .int ((1 + 1) + 1)), (0, .ref (ad 3))]) hx hb d_Ma_costOfLatest_28 hl (k := 0) rfl rfl (by decide) rfl (fun ls hl => ?_)
      refine lv_aload_n hx hb d_Ma_costOfLatest_31 rfl (lv_at hl 1 rfl) ?_
      refine gg_3_2 (x := (G 3 2)) hC hB rfl fl_Ma_31 d_Ma_costOfLatest_32 ?_
      refine lv_aload_n hx hb d_Ma_costOfLatest_35 rfl (lv_at hl 1 rfl) ?_
      refine gg_3_9 (x := (G 3 9)) hC hB rfl fl_Ma_64 d_Ma_costOfLatest_36 ?_
      refine lv_icmp_eq (tgt := 45) hx hb d_Ma_costOfLatest_39 (by decide) (fun c13 => ?_) (fun c13 => ?_)
      · have hf := hf.trans (if_pos c13)
        refine lv_aload_n hx hb d_Ma_costOfLatest_45 rfl (lv_at hl 1 rfl) ?_
        refine gg_3_3 (x := (G 3 3)) hC hB rfl fl_Ma_34 d_Ma_costOfLatest_46 ?_
        refine lv_aload_n hx hb d_Ma_costOfLatest_49 rfl (lv_at hl 1 rfl) ?_
        refine gg_3_10 (x := (G 3 10)) hC hB rfl fl_Ma_67 d_Ma_costOfLatest_50 ?_
        refine lv_icmp_eq (tgt := 59) hx hb d_Ma_costOfLatest_53 (by decide) (fun c14 => ?_) (fun c14 => ?_)
        · have hf := hf.trans (if_pos c14)
          refine lv_iload_n hx hb d_Ma_costOfLatest_59 rfl (lv_at hl 0 rfl) ?_
          exact g_iret hC hB hr hlk (by decide) (by decide) (by rw [hf]) rfl d_Ma_costOfLatest_60
        · have hf := hf.trans (if_neg c14)
          refine lv_iinc (v := ((1 + 1) + 1) + 1) (lv' := [(1, .int (((1 + 1) + 1) + 1)), (0, .ref (ad 3))]) hx hb d_Ma_costOfLatest_56 hl (k := 0) rfl rfl (by decide) rfl (fun ls hl => ?_)
          refine lv_iload_n hx hb d_Ma_costOfLatest_59 rfl (lv_at hl 0 rfl) ?_
          exact g_iret hC hB hr hlk (by decide) (by decide) (by rw [hf]) rfl d_Ma_costOfLatest_60
      · have hf := hf.trans (if_neg c13)
        refine lv_iinc (v := ((1 + 1) + 1) + 1) (lv' := [(1, .int (((1 + 1) + 1) + 1)), (0, .ref (ad 3))]) hx hb d_Ma_costOfLatest_42 hl (k := 0) rfl rfl (by decide) rfl (fun ls hl => ?_)
        refine lv_aload_n hx hb d_Ma_costOfLatest_45 rfl (lv_at hl 1 rfl) ?_
        refine gg_3_3 (x := (G 3 3)) hC hB rfl fl_Ma_34 d_Ma_costOfLatest_46 ?_
        refine lv_aload_n hx hb d_Ma_costOfLatest_49 rfl (lv_at hl 1 rfl) ?_
        refine gg_3_10 (x := (G 3 10)) hC hB rfl fl_Ma_67 d_Ma_costOfLatest_50 ?_
        refine lv_icmp_eq (tgt := 59) hx hb d_Ma_costOfLatest_53 (by decide) (fun c15 => ?_) (fun c15 => ?_)
        · have hf := hf.trans (if_pos c15)
          refine lv_iload_n hx hb d_Ma_costOfLatest_59 rfl (lv_at hl 0 rfl) ?_
          exact g_iret hC hB hr hlk (by decide) (by decide) (by rw [hf]) rfl d_Ma_costOfLatest_60
        · have hf := hf.trans (if_neg c15)
          refine lv_iinc (v := (((1 + 1) + 1) + 1) + 1) (lv' := [(1, .int ((((1 + 1) + 1) + 1) + 1)), (0, .ref (ad 3))]) hx hb d_Ma_costOfLatest_56 hl (k := 0) rfl rfl (by decide) rfl (fun ls hl => ?_)
          refine lv_iload_n hx hb d_Ma_costOfLatest_59 rfl (lv_at hl 0 rfl) ?_
          exact g_iret hC hB hr hlk (by decide) (by decide) (by rw [hf]) rfl d_Ma_costOfLatest_60
abbrev rm_Ro_dropOldest : Room := { frames := 1, cells := 0, slots := 0, locals := 15 }
def f_Ro_dropOldest (G : gT) : gT := (g_up (g_up (g_up G 7 3 ((G 7 3) - (G 8 ((f_Ro_slot G (G 7 2)).toNatClampNeg)))) 7 2 ((G 7 2) + 1)) 7 4 ((G 7 4) + 1))
def ok_Ro_dropOldest (G : gT) : Prop := (vp_in (f_Ro_slot G (G 7 2)) 1024 ∧ True)
set_option maxHeartbeats 4000000 in
set_option maxRecDepth 100000 in
theorem c_Ro_dropOldest (l : Launch) (G : gT) (O : Int64) (hok : ok_Ro_dropOldest G) : gMet l y_Ro_dropOldest w_Ro_dropOldest rm_Ro_dropOldest (fun ad => [.ref (ad 7)]) G O (.inl (none)) (f_Ro_dropOldest G) O := by
  refine g_body (by decide) (gCode_of _ _ _ _) (fun ad => by simp [lg_sl, Value.category]) ?_
  intro p e s0 s m args below meth c D cI cL ad hC hr hlk htb hB ls hl
  have hC : CallFix p m c b_Ro_dropOldest 1 s args gtb R_Ro := hC
  have hl : lv_has ls 1 [(0, .ref (ad 7))] := hl
  have hx := hC.1
  have hb := hC.2.1
  have hf : f_Ro_dropOldest G = (g_up (g_up (g_up G 7 3 ((G 7 3) - (G 8 ((f_Ro_slot G (G 7 2)).toNatClampNeg)))) 7 2 ((G 7 2) + 1)) 7 4 ((G 7 4) + 1)) := rfl
  have hok : (vp_in (f_Ro_slot G (G 7 2)) 1024 ∧ True) := hok
  refine lv_aload_n hx hb d_Ro_dropOldest_0 rfl (lv_at hl 0 rfl) ?_
  refine lv_dup hx hb d_Ro_dropOldest_1 rfl ?_
  refine gg_7_3 (x := (G 7 3)) hC hB rfl fl_Ro_52 d_Ro_dropOldest_2 ?_
  refine lv_aload_n hx hb d_Ro_dropOldest_5 rfl (lv_at hl 0 rfl) ?_
  refine gr_7_5 hC hB fl_Ro_11 d_Ro_dropOldest_6 ?_
  refine lv_aload_n hx hb d_Ro_dropOldest_9 rfl (lv_at hl 0 rfl) ?_
  refine gg_7_2 (x := (G 7 2)) hC hB rfl fl_Ro_46 d_Ro_dropOldest_10 ?_
  refine g_callSi (As := [.int (G 7 2)]) (rest := [.ref (ad 8), .int (G 7 3), .ref (ad 7)]) hC hB (c_Ro_slot l G (G 7 2) O) rfl key_Ro_slot rfl sta_Ro_slot ml_Ro_58 rfl hl.1 ⟨Nat.le_of_ble_eq_true rfl, Nat.le_of_ble_eq_true rfl, Nat.le_of_ble_eq_true rfl, Nat.le_of_ble_eq_true rfl⟩ d_Ro_dropOldest_13 (fun H locs hB => ?_)
  refine ga_8 (x := (G 8 ((f_Ro_slot G (G 7 2)).toNatClampNeg))) hC hB hok.1 rfl d_Ro_dropOldest_16 ?_
  have hok := hok.2
  refine lv_isub hx hb d_Ro_dropOldest_17 ?_
  refine gp_7_3 hC hB fl_Ro_52 d_Ro_dropOldest_18 (fun H locs hB => ?_)
  refine lv_aload_n hx hb d_Ro_dropOldest_21 rfl (lv_at hl 0 rfl) ?_
  refine lv_dup hx hb d_Ro_dropOldest_22 rfl ?_
  refine gg_7_2 (x := (G 7 2)) hC hB rfl fl_Ro_46 d_Ro_dropOldest_23 ?_
  refine lv_iconst (v := 1) hx hb d_Ro_dropOldest_26 (by decide) ?_
  refine lv_iadd hx hb d_Ro_dropOldest_27 ?_
  refine gp_7_2 hC hB fl_Ro_46 d_Ro_dropOldest_28 (fun H locs hB => ?_)
  refine lv_aload_n hx hb d_Ro_dropOldest_31 rfl (lv_at hl 0 rfl) ?_
  refine lv_dup hx hb d_Ro_dropOldest_32 rfl ?_
  refine gg_7_4 (x := (G 7 4)) hC hB rfl fl_Ro_82 d_Ro_dropOldest_33 ?_
  refine lv_iconst (v := 1) hx hb d_Ro_dropOldest_36 (by decide) ?_
  refine lv_iadd hx hb d_Ro_dropOldest_37 ?_
  refine gp_7_4 hC hB fl_Ro_82 d_Ro_dropOldest_38 (fun H locs hB => ?_)
  exact g_vret hC hB hr hlk (by decide) (by decide) rfl hf d_Ro_dropOldest_41
abbrev rm_Ro_dropAll : Room := { frames := 0, cells := 0, slots := 0, locals := 0 }
def f_Ro_dropAll (G : gT) : gT := (g_up (g_up (g_up G 7 4 ((G 7 4) + ((G 7 1) - (G 7 2)))) 7 2 (G 7 1)) 7 3 0)
set_option maxHeartbeats 4000000 in
set_option maxRecDepth 100000 in
theorem c_Ro_dropAll (l : Launch) (G : gT) (O : Int64) : gMet l y_Ro_dropAll w_Ro_dropAll rm_Ro_dropAll (fun ad => [.ref (ad 7)]) G O (.inl (none)) (f_Ro_dropAll G) O := by
  refine g_body (by decide) (gCode_of _ _ _ _) (fun ad => by simp [lg_sl, Value.category]) ?_
  intro p e s0 s m args below meth c D cI cL ad hC hr hlk htb hB ls hl
  have hC : CallFix p m c b_Ro_dropAll 1 s args gtb R_Ro := hC
  have hl : lv_has ls 1 [(0, .ref (ad 7))] := hl
  have hx := hC.1
  have hb := hC.2.1
  have hf : f_Ro_dropAll G = (g_up (g_up (g_up G 7 4 ((G 7 4) + ((G 7 1) - (G 7 2)))) 7 2 (G 7 1)) 7 3 0) := rfl
  refine lv_aload_n hx hb d_Ro_dropAll_0 rfl (lv_at hl 0 rfl) ?_
  refine lv_dup hx hb d_Ro_dropAll_1 rfl ?_
  refine gg_7_4 (x := (G 7 4)) hC hB rfl fl_Ro_82 d_Ro_dropAll_2 ?_
  refine lv_aload_n hx hb d_Ro_dropAll_5 rfl (lv_at hl 0 rfl) ?_
  refine gg_7_1 (x := (G 7 1)) hC hB rfl fl_Ro_49 d_Ro_dropAll_6 ?_
  refine lv_aload_n hx hb d_Ro_dropAll_9 rfl (lv_at hl 0 rfl) ?_
  refine gg_7_2 (x := (G 7 2)) hC hB rfl fl_Ro_46 d_Ro_dropAll_10 ?_
  refine lv_isub hx hb d_Ro_dropAll_13 ?_
  refine lv_iadd hx hb d_Ro_dropAll_14 ?_
  refine gp_7_4 hC hB fl_Ro_82 d_Ro_dropAll_15 (fun H locs hB => ?_)
  refine lv_aload_n hx hb d_Ro_dropAll_18 rfl (lv_at hl 0 rfl) ?_
  refine lv_aload_n hx hb d_Ro_dropAll_19 rfl (lv_at hl 0 rfl) ?_
  refine gg_7_1 (x := (G 7 1)) hC hB rfl fl_Ro_49 d_Ro_dropAll_20 ?_
  refine gp_7_2 hC hB fl_Ro_46 d_Ro_dropAll_23 (fun H locs hB => ?_)
  refine lv_aload_n hx hb d_Ro_dropAll_26 rfl (lv_at hl 0 rfl) ?_
  refine lv_iconst (v := 0) hx hb d_Ro_dropAll_27 (by decide) ?_
  refine gp_7_3 hC hB fl_Ro_52 d_Ro_dropAll_28 (fun H locs hB => ?_)
  exact g_vret hC hB hr hlk (by decide) (by decide) rfl hf d_Ro_dropAll_31
abbrev rm_Ro_undo_3 : Room := { frames := 0, cells := 0, slots := 0, locals := 0 }
def f_Ro_undo_3 (G : gT) (p1 : Int32) : gT := (if (G 9 p1.toNatClampNeg) = (-1) then (g_up (g_up (g_up (g_up (g_up G 3 1 (G 12 p1.toNatClampNeg)) 3 2 (G 13 p1.toNatClampNeg)) 3 3 (G 14 p1.toNatClampNeg)) 3 4 (G 15 p1.toNatClampNeg)) 3 5 0) else (g_up (g_up (g_up (g_up (g_up (g_up G 4 ((G 9 p1.toNatClampNeg).toNatClampNeg) (G 10 p1.toNatClampNeg)) 3 1 (G 12 p1.toNatClampNeg)) 3 2 (G 13 p1.toNatClampNeg)) 3 3 (G 14 p1.toNatClampNeg)) 3 4 (G 15 p1.toNatClampNeg)) 3 5 0))
def ok_Ro_undo_3 (G : gT) (p1 : Int32) : Prop := (vp_in p1 1024 ∧ (((G 9 p1.toNatClampNeg) = (-1) → (vp_in p1 1024 ∧ (vp_in p1 1024 ∧ (vp_in p1 1024 ∧ (vp_in p1 1024 ∧ True))))) ∧ (¬ (G 9 p1.toNatClampNeg) = (-1) → (vp_in p1 1024 ∧ (vp_in p1 1024 ∧ (vp_in (G 9 p1.toNatClampNeg) 264 ∧ (vp_in p1 1024 ∧ (vp_in p1 1024 ∧ (vp_in p1 1024 ∧ (vp_in p1 1024 ∧ True))))))))))
set_option maxHeartbeats 4000000 in
set_option maxRecDepth 100000 in
theorem c_Ro_undo_3 (l : Launch) (G : gT) (p1 : Int32) (O : Int64) (hok : ok_Ro_undo_3 G p1) : gMet l y_Ro_undo w_Ro_undo rm_Ro_undo_3 (fun ad => [.ref (ad 7), .int p1, .ref (ad 3)]) G O (.inl (none)) (f_Ro_undo_3 G p1) O := by
  refine g_body (by decide) (gCode_of _ _ _ _) (fun ad => by simp [lg_sl, Value.category]) ?_
  intro p e s0 s m args below meth c D cI cL ad hC hr hlk htb hB ls hl
  have hC : CallFix p m c b_Ro_undo 3 s args gtb R_Ro := hC
  have hl : lv_has ls 3 [(0, .ref (ad 7)), (1, .int p1), (2, .ref (ad 3))] := hl
  have hx := hC.1
  have hb := hC.2.1
  have hf : f_Ro_undo_3 G p1 = (if (G 9 p1.toNatClampNeg) = (-1) then (g_up (g_up (g_up (g_up (g_up G 3 1 (G 12 p1.toNatClampNeg)) 3 2 (G 13 p1.toNatClampNeg)) 3 3 (G 14 p1.toNatClampNeg)) 3 4 (G 15 p1.toNatClampNeg)) 3 5 0) else (g_up (g_up (g_up (g_up (g_up (g_up G 4 ((G 9 p1.toNatClampNeg).toNatClampNeg) (G 10 p1.toNatClampNeg)) 3 1 (G 12 p1.toNatClampNeg)) 3 2 (G 13 p1.toNatClampNeg)) 3 3 (G 14 p1.toNatClampNeg)) 3 4 (G 15 p1.toNatClampNeg)) 3 5 0)) := rfl
  have hok : (vp_in p1 1024 ∧ (((G 9 p1.toNatClampNeg) = (-1) → (vp_in p1 1024 ∧ (vp_in p1 1024 ∧ (vp_in p1 1024 ∧ (vp_in p1 1024 ∧ True))))) ∧ (¬ (G 9 p1.toNatClampNeg) = (-1) → (vp_in p1 1024 ∧ (vp_in p1 1024 ∧ (vp_in (G 9 p1.toNatClampNeg) 264 ∧ (vp_in p1 1024 ∧ (vp_in p1 1024 ∧ (vp_in p1 1024 ∧ (vp_in p1 1024 ∧ True)))))))))) := hok
  refine lv_aload_n hx hb d_Ro_undo_0 rfl (lv_at hl 0 rfl) ?_
  refine gr_7_6 hC hB fl_Ro_15 d_Ro_undo_1 ?_
  refine lv_iload_n hx hb d_Ro_undo_4 rfl (lv_at hl 1 rfl) ?_
  refine ga_9 (x := (G 9 p1.toNatClampNeg)) hC hB hok.1 rfl d_Ro_undo_5 ?_
  have hok := hok.2
  refine lv_iconst (v := (-1)) hx hb d_Ro_undo_6 (by decide) ?_
  refine lv_icmp_eq (tgt := 27) hx hb d_Ro_undo_7 (by decide) (fun c1 => ?_) (fun c1 => ?_)
  · have hf := hf.trans (if_pos c1)
    have hok := hok.1 c1
    refine lv_aload_n hx hb d_Ro_undo_27 rfl (lv_at hl 2 rfl) ?_
    refine lv_aload_n hx hb d_Ro_undo_28 rfl (lv_at hl 0 rfl) ?_
    refine gr_7_9 hC hB fl_Ro_24 d_Ro_undo_29 ?_
    refine lv_iload_n hx hb d_Ro_undo_32 rfl (lv_at hl 1 rfl) ?_
    refine ga_12 (x := (G 12 p1.toNatClampNeg)) hC hB hok.1 rfl d_Ro_undo_33 ?_
    have hok := hok.2
    refine gp_3_1 hC hB fl_Ro_89 d_Ro_undo_34 (fun H locs hB => ?_)
    refine lv_aload_n hx hb d_Ro_undo_37 rfl (lv_at hl 2 rfl) ?_
    refine lv_aload_n hx hb d_Ro_undo_38 rfl (lv_at hl 0 rfl) ?_
    refine gr_7_10 hC hB fl_Ro_27 d_Ro_undo_39 ?_
    refine lv_iload_n hx hb d_Ro_undo_42 rfl (lv_at hl 1 rfl) ?_
    refine ga_13 (x := (G 13 p1.toNatClampNeg)) hC hB hok.1 rfl d_Ro_undo_43 ?_
    have hok := hok.2
    refine gp_3_2 hC hB fl_Ro_92 d_Ro_undo_44 (fun H locs hB => ?_)
    refine lv_aload_n hx hb d_Ro_undo_47 rfl (lv_at hl 2 rfl) ?_
    refine lv_aload_n hx hb d_Ro_undo_48 rfl (lv_at hl 0 rfl) ?_
    refine gr_7_11 hC hB fl_Ro_30 d_Ro_undo_49 ?_
    refine lv_iload_n hx hb d_Ro_undo_52 rfl (lv_at hl 1 rfl) ?_
    refine ga_14 (x := (G 14 p1.toNatClampNeg)) hC hB hok.1 rfl d_Ro_undo_53 ?_
    have hok := hok.2
    refine gp_3_3 hC hB fl_Ro_95 d_Ro_undo_54 (fun H locs hB => ?_)
    refine lv_aload_n hx hb d_Ro_undo_57 rfl (lv_at hl 2 rfl) ?_
    refine lv_aload_n hx hb d_Ro_undo_58 rfl (lv_at hl 0 rfl) ?_
    refine gr_7_12 hC hB fl_Ro_33 d_Ro_undo_59 ?_
    refine lv_iload_n hx hb d_Ro_undo_62 rfl (lv_at hl 1 rfl) ?_
    refine ga_15 (x := (G 15 p1.toNatClampNeg)) hC hB hok.1 rfl d_Ro_undo_63 ?_
    have hok := hok.2
    refine gp_3_4 hC hB fl_Ro_97 d_Ro_undo_64 (fun H locs hB => ?_)
    refine lv_aload_n hx hb d_Ro_undo_67 rfl (lv_at hl 2 rfl) ?_
    refine lv_iconst (v := 0) hx hb d_Ro_undo_68 (by decide) ?_
    refine gp_3_5 hC hB fl_Ro_100 d_Ro_undo_69 (fun H locs hB => ?_)
    exact g_vret hC hB hr hlk (by decide) (by decide) rfl hf d_Ro_undo_72
  · have hf := hf.trans (if_neg c1)
    have hok := hok.2 c1
    refine lv_aload_n hx hb d_Ro_undo_10 rfl (lv_at hl 2 rfl) ?_
    refine gr_3_0 hC hB fl_Ro_67 d_Ro_undo_11 ?_
    refine lv_aload_n hx hb d_Ro_undo_14 rfl (lv_at hl 0 rfl) ?_
    refine gr_7_6 hC hB fl_Ro_15 d_Ro_undo_15 ?_
    refine lv_iload_n hx hb d_Ro_undo_18 rfl (lv_at hl 1 rfl) ?_
    refine ga_9 (x := (G 9 p1.toNatClampNeg)) hC hB hok.1 rfl d_Ro_undo_19 ?_
    have hok := hok.2
    refine lv_aload_n hx hb d_Ro_undo_20 rfl (lv_at hl 0 rfl) ?_
    refine gr_7_7 hC hB fl_Ro_18 d_Ro_undo_21 ?_
    refine lv_iload_n hx hb d_Ro_undo_24 rfl (lv_at hl 1 rfl) ?_
    refine ga_10 (x := (G 10 p1.toNatClampNeg)) hC hB hok.1 rfl d_Ro_undo_25 ?_
    have hok := hok.2
    refine gs_4 hC hB hok.1 d_Ro_undo_26 (fun H locs hB => ?_)
    have hok := hok.2
    refine lv_aload_n hx hb d_Ro_undo_27 rfl (lv_at hl 2 rfl) ?_
    refine lv_aload_n hx hb d_Ro_undo_28 rfl (lv_at hl 0 rfl) ?_
    refine gr_7_9 hC hB fl_Ro_24 d_Ro_undo_29 ?_
    refine lv_iload_n hx hb d_Ro_undo_32 rfl (lv_at hl 1 rfl) ?_
    refine ga_12 (x := (G 12 p1.toNatClampNeg)) hC hB hok.1 rfl d_Ro_undo_33 ?_
    have hok := hok.2
    refine gp_3_1 hC hB fl_Ro_89 d_Ro_undo_34 (fun H locs hB => ?_)
    refine lv_aload_n hx hb d_Ro_undo_37 rfl (lv_at hl 2 rfl) ?_
    refine lv_aload_n hx hb d_Ro_undo_38 rfl (lv_at hl 0 rfl) ?_
    refine gr_7_10 hC hB fl_Ro_27 d_Ro_undo_39 ?_
    refine lv_iload_n hx hb d_Ro_undo_42 rfl (lv_at hl 1 rfl) ?_
    refine ga_13 (x := (G 13 p1.toNatClampNeg)) hC hB hok.1 rfl d_Ro_undo_43 ?_
    have hok := hok.2
    refine gp_3_2 hC hB fl_Ro_92 d_Ro_undo_44 (fun H locs hB => ?_)
    refine lv_aload_n hx hb d_Ro_undo_47 rfl (lv_at hl 2 rfl) ?_
    refine lv_aload_n hx hb d_Ro_undo_48 rfl (lv_at hl 0 rfl) ?_
    refine gr_7_11 hC hB fl_Ro_30 d_Ro_undo_49 ?_
    refine lv_iload_n hx hb d_Ro_undo_52 rfl (lv_at hl 1 rfl) ?_
    refine ga_14 (x := (G 14 p1.toNatClampNeg)) hC hB hok.1 rfl d_Ro_undo_53 ?_
    have hok := hok.2
    refine gp_3_3 hC hB fl_Ro_95 d_Ro_undo_54 (fun H locs hB => ?_)
    refine lv_aload_n hx hb d_Ro_undo_57 rfl (lv_at hl 2 rfl) ?_
    refine lv_aload_n hx hb d_Ro_undo_58 rfl (lv_at hl 0 rfl) ?_
    refine gr_7_12 hC hB fl_Ro_33 d_Ro_undo_59 ?_
    refine lv_iload_n hx hb d_Ro_undo_62 rfl (lv_at hl 1 rfl) ?_
    refine ga_15 (x := (G 15 p1.toNatClampNeg)) hC hB hok.1 rfl d_Ro_undo_63 ?_
    have hok := hok.2
    refine gp_3_4 hC hB fl_Ro_97 d_Ro_undo_64 (fun H locs hB => ?_)
    refine lv_aload_n hx hb d_Ro_undo_67 rfl (lv_at hl 2 rfl) ?_
    refine lv_iconst (v := 0) hx hb d_Ro_undo_68 (by decide) ?_
    refine gp_3_5 hC hB fl_Ro_100 d_Ro_undo_69 (fun H locs hB => ?_)
    exact g_vret hC hB hr hlk (by decide) (by decide) rfl hf d_Ro_undo_72
abbrev rm_Ro_costOf : Room := { frames := 1, cells := 0, slots := 0, locals := 13 }
def f_Ro_costOf (G : gT) (p1 : Int32) : Int32 := (G 8 ((f_Ro_slot G p1).toNatClampNeg))
def ok_Ro_costOf (G : gT) (p1 : Int32) : Prop := (vp_in (f_Ro_slot G p1) 1024 ∧ True)
set_option maxHeartbeats 4000000 in
set_option maxRecDepth 100000 in
theorem c_Ro_costOf (l : Launch) (G : gT) (p1 : Int32) (O : Int64) (hok : ok_Ro_costOf G p1) : gMet l y_Ro_costOf w_Ro_costOf rm_Ro_costOf (fun ad => [.ref (ad 7), .int p1]) G O (.inl (some (.int (f_Ro_costOf G p1)))) G O := by
  refine g_body (by decide) (gCode_of _ _ _ _) (fun ad => by simp [lg_sl, Value.category]) ?_
  intro p e s0 s m args below meth c D cI cL ad hC hr hlk htb hB ls hl
  have hC : CallFix p m c b_Ro_costOf 2 s args gtb R_Ro := hC
  have hl : lv_has ls 2 [(0, .ref (ad 7)), (1, .int p1)] := hl
  have hx := hC.1
  have hb := hC.2.1
  have hf : f_Ro_costOf G p1 = (G 8 ((f_Ro_slot G p1).toNatClampNeg)) := rfl
  have hok : (vp_in (f_Ro_slot G p1) 1024 ∧ True) := hok
  refine lv_aload_n hx hb d_Ro_costOf_0 rfl (lv_at hl 0 rfl) ?_
  refine gr_7_5 hC hB fl_Ro_11 d_Ro_costOf_1 ?_
  refine lv_iload_n hx hb d_Ro_costOf_4 rfl (lv_at hl 1 rfl) ?_
  refine g_callSi (As := [.int p1]) (rest := [.ref (ad 8)]) hC hB (c_Ro_slot l G p1 O) rfl key_Ro_slot rfl sta_Ro_slot ml_Ro_58 rfl hl.1 ⟨Nat.le_of_ble_eq_true rfl, Nat.le_of_ble_eq_true rfl, Nat.le_of_ble_eq_true rfl, Nat.le_of_ble_eq_true rfl⟩ d_Ro_costOf_5 (fun H locs hB => ?_)
  refine ga_8 (x := (G 8 ((f_Ro_slot G p1).toNatClampNeg))) hC hB hok.1 rfl d_Ro_costOf_8 ?_
  have hok := hok.2
  exact g_iret hC hB hr hlk (by decide) (by decide) (by rw [hf]) rfl d_Ro_costOf_9
abbrev rm_Ro_writtenBy : Room := { frames := 1, cells := 0, slots := 0, locals := 13 }
def f_Ro_writtenBy (G : gT) (p1 : Int32) : Int32 := (G 9 ((f_Ro_slot G p1).toNatClampNeg))
def ok_Ro_writtenBy (G : gT) (p1 : Int32) : Prop := (vp_in (f_Ro_slot G p1) 1024 ∧ True)
set_option maxHeartbeats 4000000 in
set_option maxRecDepth 100000 in
theorem c_Ro_writtenBy (l : Launch) (G : gT) (p1 : Int32) (O : Int64) (hok : ok_Ro_writtenBy G p1) : gMet l y_Ro_writtenBy w_Ro_writtenBy rm_Ro_writtenBy (fun ad => [.ref (ad 7), .int p1]) G O (.inl (some (.int (f_Ro_writtenBy G p1)))) G O := by
  refine g_body (by decide) (gCode_of _ _ _ _) (fun ad => by simp [lg_sl, Value.category]) ?_
  intro p e s0 s m args below meth c D cI cL ad hC hr hlk htb hB ls hl
  have hC : CallFix p m c b_Ro_writtenBy 2 s args gtb R_Ro := hC
  have hl : lv_has ls 2 [(0, .ref (ad 7)), (1, .int p1)] := hl
  have hx := hC.1
  have hb := hC.2.1
  have hf : f_Ro_writtenBy G p1 = (G 9 ((f_Ro_slot G p1).toNatClampNeg)) := rfl
  have hok : (vp_in (f_Ro_slot G p1) 1024 ∧ True) := hok
  refine lv_aload_n hx hb d_Ro_writtenBy_0 rfl (lv_at hl 0 rfl) ?_
  refine gr_7_6 hC hB fl_Ro_15 d_Ro_writtenBy_1 ?_
  refine lv_iload_n hx hb d_Ro_writtenBy_4 rfl (lv_at hl 1 rfl) ?_
  refine g_callSi (As := [.int p1]) (rest := [.ref (ad 9)]) hC hB (c_Ro_slot l G p1 O) rfl key_Ro_slot rfl sta_Ro_slot ml_Ro_58 rfl hl.1 ⟨Nat.le_of_ble_eq_true rfl, Nat.le_of_ble_eq_true rfl, Nat.le_of_ble_eq_true rfl, Nat.le_of_ble_eq_true rfl⟩ d_Ro_writtenBy_5 (fun H locs hB => ?_)
  refine ga_9 (x := (G 9 ((f_Ro_slot G p1).toNatClampNeg))) hC hB hok.1 rfl d_Ro_writtenBy_8 ?_
  have hok := hok.2
  exact g_iret hC hB hr hlk (by decide) (by decide) (by rw [hf]) rfl d_Ro_writtenBy_9
abbrev rm_Ro_numberBefore : Room := { frames := 1, cells := 0, slots := 0, locals := 12 }
def f_Ro_numberBefore (G : gT) (p1 : Int32) (p2 : Int32) (p3 : Int32) : Int32 := (if (G 9 ((f_Ro_slot G p1).toNatClampNeg)) = p2 then (G 10 ((f_Ro_slot G p1).toNatClampNeg)) else p3)
def ok_Ro_numberBefore (G : gT) (p1 : Int32) (p2 : Int32) (p3 : Int32) : Prop := (vp_in (f_Ro_slot G p1) 1024 ∧ (((G 9 ((f_Ro_slot G p1).toNatClampNeg)) = p2 → (vp_in (f_Ro_slot G p1) 1024 ∧ True)) ∧ (¬ (G 9 ((f_Ro_slot G p1).toNatClampNeg)) = p2 → True)))
set_option maxHeartbeats 4000000 in
set_option maxRecDepth 100000 in
theorem c_Ro_numberBefore (l : Launch) (G : gT) (p1 : Int32) (p2 : Int32) (p3 : Int32) (O : Int64) (hok : ok_Ro_numberBefore G p1 p2 p3) : gMet l y_Ro_numberBefore w_Ro_numberBefore rm_Ro_numberBefore (fun ad => [.ref (ad 7), .int p1, .int p2, .int p3]) G O (.inl (some (.int (f_Ro_numberBefore G p1 p2 p3)))) G O := by
  refine g_body (by decide) (gCode_of _ _ _ _) (fun ad => by simp [lg_sl, Value.category]) ?_
  intro p e s0 s m args below meth c D cI cL ad hC hr hlk htb hB ls hl
  have hC : CallFix p m c b_Ro_numberBefore 5 s args gtb R_Ro := hC
  have hl : lv_has ls 5 [(0, .ref (ad 7)), (1, .int p1), (2, .int p2), (3, .int p3)] := hl
  have hx := hC.1
  have hb := hC.2.1
  have hf : f_Ro_numberBefore G p1 p2 p3 = (if (G 9 ((f_Ro_slot G p1).toNatClampNeg)) = p2 then (G 10 ((f_Ro_slot G p1).toNatClampNeg)) else p3) := rfl
  have hok : (vp_in (f_Ro_slot G p1) 1024 ∧ (((G 9 ((f_Ro_slot G p1).toNatClampNeg)) = p2 → (vp_in (f_Ro_slot G p1) 1024 ∧ True)) ∧ (¬ (G 9 ((f_Ro_slot G p1).toNatClampNeg)) = p2 → True))) := hok
  refine lv_iload_n hx hb d_Ro_numberBefore_0 rfl (lv_at hl 1 rfl) ?_
  refine g_callSi (As := [.int p1]) (rest := []) hC hB (c_Ro_slot l G p1 O) rfl key_Ro_slot rfl sta_Ro_slot ml_Ro_58 rfl hl.1 ⟨Nat.le_of_ble_eq_true rfl, Nat.le_of_ble_eq_true rfl, Nat.le_of_ble_eq_true rfl, Nat.le_of_ble_eq_true rfl⟩ d_Ro_numberBefore_1 (fun H locs hB => ?_)
  refine lv_istore (lv' := [(4, .int (f_Ro_slot G p1)), (0, .ref (ad 7)), (1, .int p1), (2, .int p2), (3, .int p3)]) hx hb d_Ro_numberBefore_4 hl (by decide) rfl (fun ls hl => ?_)
  refine lv_aload_n hx hb d_Ro_numberBefore_6 rfl (lv_at hl 1 rfl) ?_
  refine gr_7_6 hC hB fl_Ro_15 d_Ro_numberBefore_7 ?_
  refine lv_iload hx hb d_Ro_numberBefore_10 (lv_at hl 0 rfl) ?_
  refine ga_9 (x := (G 9 ((f_Ro_slot G p1).toNatClampNeg))) hC hB hok.1 rfl d_Ro_numberBefore_12 ?_
  have hok := hok.2
  refine lv_iload_n hx hb d_Ro_numberBefore_13 rfl (lv_at hl 3 rfl) ?_
  refine lv_icmp_ne (tgt := 27) hx hb d_Ro_numberBefore_14 (by decide) (fun c1 => ?_) (fun c1 => ?_)
  · have hf := hf.trans (if_neg c1)
    have hok := hok.2 c1
    refine lv_iload_n hx hb d_Ro_numberBefore_27 rfl (lv_at hl 4 rfl) ?_
    exact g_iret hC hB hr hlk (by decide) (by decide) (by rw [hf]) rfl d_Ro_numberBefore_28
  · have hf := hf.trans (if_pos c1)
    have hok := hok.1 c1
    refine lv_aload_n hx hb d_Ro_numberBefore_17 rfl (lv_at hl 1 rfl) ?_
    refine gr_7_7 hC hB fl_Ro_18 d_Ro_numberBefore_18 ?_
    refine lv_iload hx hb d_Ro_numberBefore_21 (lv_at hl 0 rfl) ?_
    refine ga_10 (x := (G 10 ((f_Ro_slot G p1).toNatClampNeg))) hC hB hok.1 rfl d_Ro_numberBefore_23 ?_
    have hok := hok.2
    refine lv_goto (tgt := 28) hx hb d_Ro_numberBefore_24 (by decide) ?_
    exact g_iret hC hB hr hlk (by decide) (by decide) (by rw [hf]) rfl d_Ro_numberBefore_28
abbrev rm_Ro_restBefore : Room := { frames := 1, cells := 0, slots := 0, locals := 12 }
def f_Ro_restBefore (G : gT) (p1 : Int32) (p2 : Int32) : Int32 := (if p2 = 264 then (G 12 ((f_Ro_slot G p1).toNatClampNeg)) else (if p2 = 265 then (G 13 ((f_Ro_slot G p1).toNatClampNeg)) else (if p2 = 266 then (G 14 ((f_Ro_slot G p1).toNatClampNeg)) else (if p2 = 267 then (G 15 ((f_Ro_slot G p1).toNatClampNeg)) else 0))))
def ok_Ro_restBefore (G : gT) (p1 : Int32) (p2 : Int32) : Prop := ((p2 = 264 → (vp_in (f_Ro_slot G p1) 1024 ∧ True)) ∧ (¬ p2 = 264 → ((p2 = 265 → (vp_in (f_Ro_slot G p1) 1024 ∧ True)) ∧ (¬ p2 = 265 → ((p2 = 266 → (vp_in (f_Ro_slot G p1) 1024 ∧ True)) ∧ (¬ p2 = 266 → ((p2 = 267 → (vp_in (f_Ro_slot G p1) 1024 ∧ True)) ∧ (¬ p2 = 267 → True))))))))
set_option maxHeartbeats 4000000 in
set_option maxRecDepth 100000 in
theorem c_Ro_restBefore (l : Launch) (G : gT) (p1 : Int32) (p2 : Int32) (O : Int64) (hok : ok_Ro_restBefore G p1 p2) : gMet l y_Ro_restBefore w_Ro_restBefore rm_Ro_restBefore (fun ad => [.ref (ad 7), .int p1, .int p2]) G O (.inl (some (.int (f_Ro_restBefore G p1 p2)))) G O := by
  refine g_body (by decide) (gCode_of _ _ _ _) (fun ad => by simp [lg_sl, Value.category]) ?_
  intro p e s0 s m args below meth c D cI cL ad hC hr hlk htb hB ls hl
  have hC : CallFix p m c b_Ro_restBefore 4 s args gtb R_Ro := hC
  have hl : lv_has ls 4 [(0, .ref (ad 7)), (1, .int p1), (2, .int p2)] := hl
  have hx := hC.1
  have hb := hC.2.1
  have hf : f_Ro_restBefore G p1 p2 = (if p2 = 264 then (G 12 ((f_Ro_slot G p1).toNatClampNeg)) else (if p2 = 265 then (G 13 ((f_Ro_slot G p1).toNatClampNeg)) else (if p2 = 266 then (G 14 ((f_Ro_slot G p1).toNatClampNeg)) else (if p2 = 267 then (G 15 ((f_Ro_slot G p1).toNatClampNeg)) else 0)))) := rfl
  have hok : ((p2 = 264 → (vp_in (f_Ro_slot G p1) 1024 ∧ True)) ∧ (¬ p2 = 264 → ((p2 = 265 → (vp_in (f_Ro_slot G p1) 1024 ∧ True)) ∧ (¬ p2 = 265 → ((p2 = 266 → (vp_in (f_Ro_slot G p1) 1024 ∧ True)) ∧ (¬ p2 = 266 → ((p2 = 267 → (vp_in (f_Ro_slot G p1) 1024 ∧ True)) ∧ (¬ p2 = 267 → True)))))))) := hok
  refine lv_iload_n hx hb d_Ro_restBefore_0 rfl (lv_at hl 1 rfl) ?_
  refine g_callSi (As := [.int p1]) (rest := []) hC hB (c_Ro_slot l G p1 O) rfl key_Ro_slot rfl sta_Ro_slot ml_Ro_58 rfl hl.1 ⟨Nat.le_of_ble_eq_true rfl, Nat.le_of_ble_eq_true rfl, Nat.le_of_ble_eq_true rfl, Nat.le_of_ble_eq_true rfl⟩ d_Ro_restBefore_1 (fun H locs hB => ?_)
  refine lv_istore_n (lv' := [(3, .int (f_Ro_slot G p1)), (0, .ref (ad 7)), (1, .int p1), (2, .int p2)]) hx hb d_Ro_restBefore_4 rfl hl (by decide) rfl (fun ls hl => ?_)
  refine lv_iload_n hx hb d_Ro_restBefore_5 rfl (lv_at hl 3 rfl) ?_
  by_cases c1 : p2 = 264
  · have hf := hf.trans (if_pos c1)
    have hok := hok.1 c1
    refine g_switch (tgt := 36) hC d_Ro_restBefore_6 (fun i hi => by show i < 4; omega) (by rw [c1]; decide) ?_
    refine lv_aload_n hx hb d_Ro_restBefore_36 rfl (lv_at hl 1 rfl) ?_
    refine gr_7_9 hC hB fl_Ro_24 d_Ro_restBefore_37 ?_
    refine lv_iload_n hx hb d_Ro_restBefore_40 rfl (lv_at hl 0 rfl) ?_
    refine ga_12 (x := (G 12 ((f_Ro_slot G p1).toNatClampNeg))) hC hB hok.1 rfl d_Ro_restBefore_41 ?_
    have hok := hok.2
    exact g_iret hC hB hr hlk (by decide) (by decide) (by rw [hf]) rfl d_Ro_restBefore_42
  · have hf := hf.trans (if_neg c1)
    have hok := hok.2 c1
    by_cases c2 : p2 = 265
    · have hf := hf.trans (if_pos c2)
      have hok := hok.1 c2
      refine g_switch (tgt := 43) hC d_Ro_restBefore_6 (fun i hi => by show i < 4; omega) (by rw [c2]; decide) ?_
      refine lv_aload_n hx hb d_Ro_restBefore_43 rfl (lv_at hl 1 rfl) ?_
      refine gr_7_10 hC hB fl_Ro_27 d_Ro_restBefore_44 ?_
      refine lv_iload_n hx hb d_Ro_restBefore_47 rfl (lv_at hl 0 rfl) ?_
      refine ga_13 (x := (G 13 ((f_Ro_slot G p1).toNatClampNeg))) hC hB hok.1 rfl d_Ro_restBefore_48 ?_
      have hok := hok.2
      exact g_iret hC hB hr hlk (by decide) (by decide) (by rw [hf]) rfl d_Ro_restBefore_49
    · have hf := hf.trans (if_neg c2)
      have hok := hok.2 c2
      by_cases c3 : p2 = 266
      · have hf := hf.trans (if_pos c3)
        have hok := hok.1 c3
        refine g_switch (tgt := 50) hC d_Ro_restBefore_6 (fun i hi => by show i < 4; omega) (by rw [c3]; decide) ?_
        refine lv_aload_n hx hb d_Ro_restBefore_50 rfl (lv_at hl 1 rfl) ?_
        refine gr_7_11 hC hB fl_Ro_30 d_Ro_restBefore_51 ?_
        refine lv_iload_n hx hb d_Ro_restBefore_54 rfl (lv_at hl 0 rfl) ?_
        refine ga_14 (x := (G 14 ((f_Ro_slot G p1).toNatClampNeg))) hC hB hok.1 rfl d_Ro_restBefore_55 ?_
        have hok := hok.2
        exact g_iret hC hB hr hlk (by decide) (by decide) (by rw [hf]) rfl d_Ro_restBefore_56
      · have hf := hf.trans (if_neg c3)
        have hok := hok.2 c3
        by_cases c4 : p2 = 267
        · have hf := hf.trans (if_pos c4)
          have hok := hok.1 c4
          refine g_switch (tgt := 57) hC d_Ro_restBefore_6 (fun i hi => by show i < 4; omega) (by rw [c4]; decide) ?_
          refine lv_aload_n hx hb d_Ro_restBefore_57 rfl (lv_at hl 1 rfl) ?_
          refine gr_7_12 hC hB fl_Ro_33 d_Ro_restBefore_58 ?_
          refine lv_iload_n hx hb d_Ro_restBefore_61 rfl (lv_at hl 0 rfl) ?_
          refine ga_15 (x := (G 15 ((f_Ro_slot G p1).toNatClampNeg))) hC hB hok.1 rfl d_Ro_restBefore_62 ?_
          have hok := hok.2
          exact g_iret hC hB hr hlk (by decide) (by decide) (by rw [hf]) rfl d_Ro_restBefore_63
        · have hf := hf.trans (if_neg c4)
          have hok := hok.2 c4
          refine g_switch (tgt := 64) hC d_Ro_restBefore_6 (fun i hi => by show i < 4; omega) ?_ ?_
          · have e0 := g_ne (k := 264) c1 (by decide)
            have e1 := g_ne (k := 265) c2 (by decide)
            have e2 := g_ne (k := 266) c3 (by decide)
            have e3 := g_ne (k := 267) c4 (by decide)
            have e : (p2).toInt < 264 ∨ 267 < (p2).toInt := by omega
            generalize (p2).toInt = z at e ⊢
            rcases e with e | e
            · rw [g_swt, if_pos (by omega)]; decide
            · rw [g_swt, if_pos (by omega)]; decide
          · refine lv_iconst (v := 0) hx hb d_Ro_restBefore_64 (by decide) ?_
            exact g_iret hC hB hr hlk (by decide) (by decide) (by rw [hf]) rfl d_Ro_restBefore_65
abbrev rm_Mt_floorMod : Room := { frames := 0, cells := 0, slots := 0, locals := 0 }
def f_Mt_floorMod (G : gT) (p0 : Int32) (p1 : Int32) : Int32 := (if 0 ≤ (p0 ^^^ p1) then p0 - p0 / p1 * p1 else (if (p0 - p0 / p1 * p1) = 0 then p0 - p0 / p1 * p1 else (p0 - p0 / p1 * p1) + p1))
def ok_Mt_floorMod (G : gT) (p0 : Int32) (p1 : Int32) : Prop := (¬ p1 = 0 ∧ True)
set_option maxHeartbeats 4000000 in
set_option maxRecDepth 100000 in
theorem c_Mt_floorMod (l : Launch) (G : gT) (p0 : Int32) (p1 : Int32) (O : Int64) (hok : ok_Mt_floorMod G p0 p1) : gMet l y_Mt_floorMod w_Mt_floorMod rm_Mt_floorMod (fun ad => [.int p0, .int p1]) G O (.inl (some (.int (f_Mt_floorMod G p0 p1)))) G O := by
  refine g_bodyF (by decide +kernel) (gCode_of _ _ _ _) (fun ad => by simp [lg_sl, Value.category]) ?_
  intro p e s0 s m args below meth c D cI cL ad hC hr hlk htb hB ls hl
  have hC : CallFix p m c b_Mt_floorMod 3 s args gtb R_Mt := hC
  have hl : lv_has ls 3 [(0, .int p0), (1, .int p1)] := hl
  have hx := hC.1
  have hb := hC.2.1
  have hf : f_Mt_floorMod G p0 p1 = (if 0 ≤ (p0 ^^^ p1) then p0 - p0 / p1 * p1 else (if (p0 - p0 / p1 * p1) = 0 then p0 - p0 / p1 * p1 else (p0 - p0 / p1 * p1) + p1)) := rfl
  have hok : (¬ p1 = 0 ∧ True) := hok
  refine lv_iload_n hx hb d_Mt_floorMod_0 rfl (lv_at hl 0 rfl) ?_
  refine lv_iload_n hx hb d_Mt_floorMod_1 rfl (lv_at hl 1 rfl) ?_
  refine lv_irem hx hb d_Mt_floorMod_2 hok.1 ?_
  have hok := hok.2
  refine lv_istore_n (lv' := [(2, .int (p0 - p0 / p1 * p1)), (0, .int p0), (1, .int p1)]) hx hb d_Mt_floorMod_3 rfl hl (by decide) rfl (fun ls hl => ?_)
  refine lv_iload_n hx hb d_Mt_floorMod_4 rfl (lv_at hl 1 rfl) ?_
  refine lv_iload_n hx hb d_Mt_floorMod_5 rfl (lv_at hl 2 rfl) ?_
  refine lv_ixor hx hb d_Mt_floorMod_6 ?_
  refine lv_if_ge (tgt := 18) hx hb d_Mt_floorMod_7 (by decide) (fun c1 => ?_) (fun c1 => ?_)
  · have hf := hf.trans (if_pos c1)
    refine lv_iload_n hx hb d_Mt_floorMod_18 rfl (lv_at hl 0 rfl) ?_
    exact g_iret hC hB hr hlk (by decide) (by decide) (by rw [hf]) rfl d_Mt_floorMod_19
  · have hf := hf.trans (if_neg c1)
    refine lv_iload_n hx hb d_Mt_floorMod_10 rfl (lv_at hl 0 rfl) ?_
    refine lv_if_eq (tgt := 18) hx hb d_Mt_floorMod_11 (by decide) (fun c2 => ?_) (fun c2 => ?_)
    · have hf := hf.trans (if_pos c2)
      refine lv_iload_n hx hb d_Mt_floorMod_18 rfl (lv_at hl 0 rfl) ?_
      exact g_iret hC hB hr hlk (by decide) (by decide) (by rw [hf]) rfl d_Mt_floorMod_19
    · have hf := hf.trans (if_neg c2)
      refine lv_iload_n hx hb d_Mt_floorMod_14 rfl (lv_at hl 0 rfl) ?_
      refine lv_iload_n hx hb d_Mt_floorMod_15 rfl (lv_at hl 2 rfl) ?_
      refine lv_iadd hx hb d_Mt_floorMod_16 ?_
      exact g_iret hC hB hr hlk (by decide) (by decide) (by rw [hf]) rfl d_Mt_floorMod_17
abbrev rm_Mt_floorDiv : Room := { frames := 0, cells := 0, slots := 0, locals := 0 }
def f_Mt_floorDiv (G : gT) (p0 : Int32) (p1 : Int32) : Int32 := (if 0 ≤ (p0 ^^^ p1) then p0 / p1 else (if ((p0 / p1) * p1) = p0 then p0 / p1 else (p0 / p1) - 1))
def ok_Mt_floorDiv (G : gT) (p0 : Int32) (p1 : Int32) : Prop := (¬ p1 = 0 ∧ True)
set_option maxHeartbeats 4000000 in
set_option maxRecDepth 100000 in
theorem c_Mt_floorDiv (l : Launch) (G : gT) (p0 : Int32) (p1 : Int32) (O : Int64) (hok : ok_Mt_floorDiv G p0 p1) : gMet l y_Mt_floorDiv w_Mt_floorDiv rm_Mt_floorDiv (fun ad => [.int p0, .int p1]) G O (.inl (some (.int (f_Mt_floorDiv G p0 p1)))) G O := by
  refine g_bodyF (by decide +kernel) (gCode_of _ _ _ _) (fun ad => by simp [lg_sl, Value.category]) ?_
  intro p e s0 s m args below meth c D cI cL ad hC hr hlk htb hB ls hl
  have hC : CallFix p m c b_Mt_floorDiv 3 s args gtb R_Mt := hC
  have hl : lv_has ls 3 [(0, .int p0), (1, .int p1)] := hl
  have hx := hC.1
  have hb := hC.2.1
  have hf : f_Mt_floorDiv G p0 p1 = (if 0 ≤ (p0 ^^^ p1) then p0 / p1 else (if ((p0 / p1) * p1) = p0 then p0 / p1 else (p0 / p1) - 1)) := rfl
  have hok : (¬ p1 = 0 ∧ True) := hok
  refine lv_iload_n hx hb d_Mt_floorDiv_0 rfl (lv_at hl 0 rfl) ?_
  refine lv_iload_n hx hb d_Mt_floorDiv_1 rfl (lv_at hl 1 rfl) ?_
  refine lv_idiv hx hb d_Mt_floorDiv_2 hok.1 ?_
  have hok := hok.2
  refine lv_istore_n (lv' := [(2, .int (p0 / p1)), (0, .int p0), (1, .int p1)]) hx hb d_Mt_floorDiv_3 rfl hl (by decide) rfl (fun ls hl => ?_)
  refine lv_iload_n hx hb d_Mt_floorDiv_4 rfl (lv_at hl 1 rfl) ?_
  refine lv_iload_n hx hb d_Mt_floorDiv_5 rfl (lv_at hl 2 rfl) ?_
  refine lv_ixor hx hb d_Mt_floorDiv_6 ?_
  refine lv_if_ge (tgt := 21) hx hb d_Mt_floorDiv_7 (by decide) (fun c1 => ?_) (fun c1 => ?_)
  · have hf := hf.trans (if_pos c1)
    refine lv_iload_n hx hb d_Mt_floorDiv_21 rfl (lv_at hl 0 rfl) ?_
    exact g_iret hC hB hr hlk (by decide) (by decide) (by rw [hf]) rfl d_Mt_floorDiv_22
  · have hf := hf.trans (if_neg c1)
    refine lv_iload_n hx hb d_Mt_floorDiv_10 rfl (lv_at hl 0 rfl) ?_
    refine lv_iload_n hx hb d_Mt_floorDiv_11 rfl (lv_at hl 2 rfl) ?_
    refine lv_imul hx hb d_Mt_floorDiv_12 ?_
    refine lv_iload_n hx hb d_Mt_floorDiv_13 rfl (lv_at hl 1 rfl) ?_
    refine lv_icmp_eq (tgt := 21) hx hb d_Mt_floorDiv_14 (by decide) (fun c2 => ?_) (fun c2 => ?_)
    · have hf := hf.trans (if_pos c2)
      refine lv_iload_n hx hb d_Mt_floorDiv_21 rfl (lv_at hl 0 rfl) ?_
      exact g_iret hC hB hr hlk (by decide) (by decide) (by rw [hf]) rfl d_Mt_floorDiv_22
    · have hf := hf.trans (if_neg c2)
      refine lv_iload_n hx hb d_Mt_floorDiv_17 rfl (lv_at hl 0 rfl) ?_
      refine lv_iconst (v := 1) hx hb d_Mt_floorDiv_18 (by decide) ?_
      refine lv_isub hx hb d_Mt_floorDiv_19 ?_
      exact g_iret hC hB hr hlk (by decide) (by decide) (by rw [hf]) rfl d_Mt_floorDiv_20
abbrev rm_BS_restAt : Room := { frames := 2, cells := 0, slots := 0, locals := 27 }
def f_BS_restAt (G : gT) (p1 : Int32) (p2 : Int32) : Int32 := (if p1 = (G 7 1) then (f_Ma_rest_3 G p2) else (f_Ro_restBefore G p1 p2))
def ok_BS_restAt (G : gT) (p1 : Int32) (p2 : Int32) : Prop := ((p1 = (G 7 1) → True) ∧ (¬ p1 = (G 7 1) → (ok_Ro_restBefore G p1 p2 ∧ True)))
set_option maxHeartbeats 4000000 in
set_option maxRecDepth 100000 in
theorem c_BS_restAt (l : Launch) (G : gT) (p1 : Int32) (p2 : Int32) (O : Int64) (hok : ok_BS_restAt G p1 p2) : gMet l y_BS_restAt w_BS_restAt rm_BS_restAt (fun ad => [.ref (ad 0), .int p1, .int p2]) G O (.inl (some (.int (f_BS_restAt G p1 p2)))) G O := by
  refine g_body (by decide) (gCode_of _ _ _ _) (fun ad => by simp [lg_sl, Value.category]) ?_
  intro p e s0 s m args below meth c D cI cL ad hC hr hlk htb hB ls hl
  have hC : CallFix p m c b_BS_restAt 3 s args gtb R_BS := hC
  have hl : lv_has ls 3 [(0, .ref (ad 0)), (1, .int p1), (2, .int p2)] := hl
  have hx := hC.1
  have hb := hC.2.1
  have hf : f_BS_restAt G p1 p2 = (if p1 = (G 7 1) then (f_Ma_rest_3 G p2) else (f_Ro_restBefore G p1 p2)) := rfl
  have hok : ((p1 = (G 7 1) → True) ∧ (¬ p1 = (G 7 1) → (ok_Ro_restBefore G p1 p2 ∧ True))) := hok
  refine lv_iload_n hx hb d_BS_restAt_0 rfl (lv_at hl 1 rfl) ?_
  refine lv_aload_n hx hb d_BS_restAt_1 rfl (lv_at hl 0 rfl) ?_
  refine gr_0_6 hC hB fl_BS_37 d_BS_restAt_2 ?_
  refine gg_7_1 (x := (G 7 1)) hC hB rfl fl_BS_88 d_BS_restAt_5 ?_
  refine lv_icmp_ne (tgt := 22) hx hb d_BS_restAt_8 (by decide) (fun c1 => ?_) (fun c1 => ?_)
  · have hf := hf.trans (if_neg c1)
    have hok := hok.2 c1
    refine lv_aload_n hx hb d_BS_restAt_22 rfl (lv_at hl 0 rfl) ?_
    refine gr_0_6 hC hB fl_BS_37 d_BS_restAt_23 ?_
    refine lv_iload_n hx hb d_BS_restAt_26 rfl (lv_at hl 1 rfl) ?_
    refine lv_iload_n hx hb d_BS_restAt_27 rfl (lv_at hl 2 rfl) ?_
    refine g_callVi (b := ad 7) (As := [.int p1, .int p2]) (rest := []) hC hB (c_Ro_restBefore l G p1 p2 O hok.1) rfl key_Ro_restBefore rfl ins_Ro_restBefore sel_Ro_restBefore ml_BS_153 (g_rec7 hB) rfl hl.1 ⟨Nat.le_of_ble_eq_true rfl, Nat.le_of_ble_eq_true rfl, Nat.le_of_ble_eq_true rfl, Nat.le_of_ble_eq_true rfl⟩ d_BS_restAt_28 (fun H locs hB => ?_)
    have hok := hok.2
    exact g_iret hC hB hr hlk (by decide) (by decide) (by rw [hf]) rfl d_BS_restAt_31
  · have hf := hf.trans (if_pos c1)
    have hok := hok.1 c1
    refine lv_aload_n hx hb d_BS_restAt_11 rfl (lv_at hl 0 rfl) ?_
    refine gr_0_4 hC hB fl_BS_19 d_BS_restAt_12 ?_
    refine lv_iload_n hx hb d_BS_restAt_15 rfl (lv_at hl 2 rfl) ?_
    refine g_callVi (b := ad 3) (As := [.int p2]) (rest := []) hC hB (c_Ma_rest_3 l G p2 O) rfl key_Ma_rest rfl ins_Ma_rest sel_Ma_rest ml_BS_150 (g_rec3 hB) rfl hl.1 ⟨Nat.le_of_ble_eq_true rfl, Nat.le_of_ble_eq_true rfl, Nat.le_of_ble_eq_true rfl, Nat.le_of_ble_eq_true rfl⟩ d_BS_restAt_16 (fun H locs hB => ?_)
    refine lv_goto (tgt := 31) hx hb d_BS_restAt_19 (by decide) ?_
    exact g_iret hC hB hr hlk (by decide) (by decide) (by rw [hf]) rfl d_BS_restAt_31
abbrev rm_BS_marksKept : Room := { frames := 1, cells := 0, slots := 0, locals := 15 }
def f_BS_marksKept (G : gT) : Int32 := (f_Mt_floorDiv G (G 7 1) (G 0 0)) - (f_Mt_floorDiv G ((G 7 2) - 1) (G 0 0))
def ok_BS_marksKept (G : gT) : Prop := (ok_Mt_floorDiv G (G 7 1) (G 0 0) ∧ (ok_Mt_floorDiv G ((G 7 2) - 1) (G 0 0) ∧ True))
set_option maxHeartbeats 4000000 in
set_option maxRecDepth 100000 in
theorem c_BS_marksKept (l : Launch) (G : gT) (O : Int64) (hok : ok_BS_marksKept G) : gMet l y_BS_marksKept w_BS_marksKept rm_BS_marksKept (fun ad => [.ref (ad 0)]) G O (.inl (some (.int (f_BS_marksKept G)))) G O := by
  refine g_body (by decide) (gCode_of _ _ _ _) (fun ad => by simp [lg_sl, Value.category]) ?_
  intro p e s0 s m args below meth c D cI cL ad hC hr hlk htb hB ls hl
  have hC : CallFix p m c b_BS_marksKept 1 s args gtb R_BS := hC
  have hl : lv_has ls 1 [(0, .ref (ad 0))] := hl
  have hx := hC.1
  have hb := hC.2.1
  have hf : f_BS_marksKept G = (f_Mt_floorDiv G (G 7 1) (G 0 0)) - (f_Mt_floorDiv G ((G 7 2) - 1) (G 0 0)) := rfl
  have hok : (ok_Mt_floorDiv G (G 7 1) (G 0 0) ∧ (ok_Mt_floorDiv G ((G 7 2) - 1) (G 0 0) ∧ True)) := hok
  refine lv_aload_n hx hb d_BS_marksKept_0 rfl (lv_at hl 0 rfl) ?_
  refine gr_0_6 hC hB fl_BS_37 d_BS_marksKept_1 ?_
  refine gg_7_1 (x := (G 7 1)) hC hB rfl fl_BS_88 d_BS_marksKept_4 ?_
  refine lv_aload_n hx hb d_BS_marksKept_7 rfl (lv_at hl 0 rfl) ?_
  refine gg_0_0 (x := (G 0 0)) hC hB rfl fl_BS_41 d_BS_marksKept_8 ?_
  refine g_callSi (As := [.int (G 7 1), .int (G 0 0)]) (rest := []) hC hB (c_Mt_floorDiv l G (G 7 1) (G 0 0) O hok.1) rfl key_Mt_floorDiv rfl sta_Mt_floorDiv ml_BS_156 rfl hl.1 ⟨Nat.le_of_ble_eq_true rfl, Nat.le_of_ble_eq_true rfl, Nat.le_of_ble_eq_true rfl, Nat.le_of_ble_eq_true rfl⟩ d_BS_marksKept_11 (fun H locs hB => ?_)
  have hok := hok.2
  refine lv_aload_n hx hb d_BS_marksKept_14 rfl (lv_at hl 0 rfl) ?_
  refine gr_0_6 hC hB fl_BS_37 d_BS_marksKept_15 ?_
  refine gg_7_2 (x := (G 7 2)) hC hB rfl fl_BS_106 d_BS_marksKept_18 ?_
  refine lv_iconst (v := 1) hx hb d_BS_marksKept_21 (by decide) ?_
  refine lv_isub hx hb d_BS_marksKept_22 ?_
  refine lv_aload_n hx hb d_BS_marksKept_23 rfl (lv_at hl 0 rfl) ?_
  refine gg_0_0 (x := (G 0 0)) hC hB rfl fl_BS_41 d_BS_marksKept_24 ?_
  refine g_callSi (As := [.int ((G 7 2) - 1), .int (G 0 0)]) (rest := [.int (f_Mt_floorDiv G (G 7 1) (G 0 0))]) hC hB (c_Mt_floorDiv l G ((G 7 2) - 1) (G 0 0) O hok.1) rfl key_Mt_floorDiv rfl sta_Mt_floorDiv ml_BS_156 rfl hl.1 ⟨Nat.le_of_ble_eq_true rfl, Nat.le_of_ble_eq_true rfl, Nat.le_of_ble_eq_true rfl, Nat.le_of_ble_eq_true rfl⟩ d_BS_marksKept_27 (fun H locs hB => ?_)
  have hok := hok.2
  refine lv_isub hx hb d_BS_marksKept_30 ?_
  exact g_iret hC hB hr hlk (by decide) (by decide) (by rw [hf]) rfl d_BS_marksKept_31
abbrev rm_BS_state : Room := { frames := 1, cells := 0, slots := 0, locals := 14 }
def f_BS_state (G : gT) : Int32 := (if (f_Ma_wouldWait_3 G (G 0 3)) = 0 then (G 3 5) else 3)
def ok_BS_state (G : gT) : Prop := (ok_Ma_wouldWait_3 G (G 0 3) ∧ True)
set_option maxHeartbeats 4000000 in
set_option maxRecDepth 100000 in
theorem c_BS_state (l : Launch) (G : gT) (O : Int64) (hok : ok_BS_state G) : gMet l y_BS_state w_BS_state rm_BS_state (fun ad => [.ref (ad 0)]) G O (.inl (some (.int (f_BS_state G)))) G O := by
  refine g_body (by decide) (gCode_of _ _ _ _) (fun ad => by simp [lg_sl, Value.category]) ?_
  intro p e s0 s m args below meth c D cI cL ad hC hr hlk htb hB ls hl
  have hC : CallFix p m c b_BS_state 1 s args gtb R_BS := hC
  have hl : lv_has ls 1 [(0, .ref (ad 0))] := hl
  have hx := hC.1
  have hb := hC.2.1
  have hf : f_BS_state G = (if (f_Ma_wouldWait_3 G (G 0 3)) = 0 then (G 3 5) else 3) := rfl
  have hok : (ok_Ma_wouldWait_3 G (G 0 3) ∧ True) := hok
  refine lv_aload_n hx hb d_BS_state_0 rfl (lv_at hl 0 rfl) ?_
  refine gr_0_4 hC hB fl_BS_19 d_BS_state_1 ?_
  refine lv_aload_n hx hb d_BS_state_4 rfl (lv_at hl 0 rfl) ?_
  refine gr_0_1 hC hB fl_BS_9 d_BS_state_5 ?_
  refine lv_aload_n hx hb d_BS_state_8 rfl (lv_at hl 0 rfl) ?_
  refine gg_0_3 (x := (G 0 3)) hC hB rfl fl_BS_52 d_BS_state_9 ?_
  refine g_callVi (b := ad 3) (As := [.ref (ad 1), .int (G 0 3)]) (rest := []) hC hB (c_Ma_wouldWait_3 l G (G 0 3) O hok.1) rfl key_Ma_wouldWait rfl ins_Ma_wouldWait sel_Ma_wouldWait ml_BS_159 (g_rec3 hB) rfl hl.1 ⟨Nat.le_of_ble_eq_true rfl, Nat.le_of_ble_eq_true rfl, Nat.le_of_ble_eq_true rfl, Nat.le_of_ble_eq_true rfl⟩ d_BS_state_12 (fun H locs hB => ?_)
  have hok := hok.2
  refine lv_if_eq (tgt := 22) hx hb d_BS_state_15 (by decide) (fun c1 => ?_) (fun c1 => ?_)
  · have hf := hf.trans (if_pos c1)
    refine lv_aload_n hx hb d_BS_state_22 rfl (lv_at hl 0 rfl) ?_
    refine gr_0_4 hC hB fl_BS_19 d_BS_state_23 ?_
    refine gg_3_5 (x := (G 3 5)) hC hB rfl fl_BS_163 d_BS_state_26 ?_
    exact g_iret hC hB hr hlk (by decide) (by decide) (by rw [hf]) rfl d_BS_state_29
  · have hf := hf.trans (if_neg c1)
    refine lv_iconst (v := 3) hx hb d_BS_state_18 (by decide) ?_
    refine lv_goto (tgt := 29) hx hb d_BS_state_19 (by decide) ?_
    exact g_iret hC hB hr hlk (by decide) (by decide) (by rw [hf]) rfl d_BS_state_29
abbrev rm_BS_count : Room := { frames := 2, cells := 0, slots := 0, locals := 27 }
def f_BS_count (G : gT) (p1 : Int32) : Int32 := (if p1 = 0 then (G 7 1) else (if p1 = 1 then (G 7 2) else (if p1 = 2 then (G 7 3) else (if p1 = 3 then (G 7 4) else (if p1 = 4 then (G 0 3) else (if p1 = 5 then (f_BS_marksKept G) else (if p1 = 6 then (f_BS_state G) else (-1))))))))
def ok_BS_count (G : gT) (p1 : Int32) : Prop := ((p1 = 0 → True) ∧ (¬ p1 = 0 → ((p1 = 1 → True) ∧ (¬ p1 = 1 → ((p1 = 2 → True) ∧ (¬ p1 = 2 → ((p1 = 3 → True) ∧ (¬ p1 = 3 → ((p1 = 4 → True) ∧ (¬ p1 = 4 → ((p1 = 5 → (ok_BS_marksKept G ∧ True)) ∧ (¬ p1 = 5 → ((p1 = 6 → (ok_BS_state G ∧ True)) ∧ (¬ p1 = 6 → True))))))))))))))
set_option maxHeartbeats 4000000 in
set_option maxRecDepth 100000 in
theorem c_BS_count (l : Launch) (G : gT) (p1 : Int32) (O : Int64) (hok : ok_BS_count G p1) : gMet l y_BS_count w_BS_count rm_BS_count (fun ad => [.ref (ad 0), .int p1]) G O (.inl (some (.int (f_BS_count G p1)))) G O := by
  refine g_body (by decide) (gCode_of _ _ _ _) (fun ad => by simp [lg_sl, Value.category]) ?_
  intro p e s0 s m args below meth c D cI cL ad hC hr hlk htb hB ls hl
  have hC : CallFix p m c b_BS_count 2 s args gtb R_BS := hC
  have hl : lv_has ls 2 [(0, .ref (ad 0)), (1, .int p1)] := hl
  have hx := hC.1
  have hb := hC.2.1
  have hf : f_BS_count G p1 = (if p1 = 0 then (G 7 1) else (if p1 = 1 then (G 7 2) else (if p1 = 2 then (G 7 3) else (if p1 = 3 then (G 7 4) else (if p1 = 4 then (G 0 3) else (if p1 = 5 then (f_BS_marksKept G) else (if p1 = 6 then (f_BS_state G) else (-1)))))))) := rfl
  have hok : ((p1 = 0 → True) ∧ (¬ p1 = 0 → ((p1 = 1 → True) ∧ (¬ p1 = 1 → ((p1 = 2 → True) ∧ (¬ p1 = 2 → ((p1 = 3 → True) ∧ (¬ p1 = 3 → ((p1 = 4 → True) ∧ (¬ p1 = 4 → ((p1 = 5 → (ok_BS_marksKept G ∧ True)) ∧ (¬ p1 = 5 → ((p1 = 6 → (ok_BS_state G ∧ True)) ∧ (¬ p1 = 6 → True)))))))))))))) := hok
  refine lv_iload_n hx hb d_BS_count_0 rfl (lv_at hl 1 rfl) ?_
  by_cases c1 : p1 = 0
  · have hf := hf.trans (if_pos c1)
    have hok := hok.1 c1
    refine g_switch (tgt := 44) hC d_BS_count_1 (fun i hi => by show i < 7; omega) (by rw [c1]; decide) ?_
    refine lv_aload_n hx hb d_BS_count_44 rfl (lv_at hl 0 rfl) ?_
    refine gr_0_6 hC hB fl_BS_37 d_BS_count_45 ?_
    refine gg_7_1 (x := (G 7 1)) hC hB rfl fl_BS_88 d_BS_count_48 ?_
    exact g_iret hC hB hr hlk (by decide) (by decide) (by rw [hf]) rfl d_BS_count_51
  · have hf := hf.trans (if_neg c1)
    have hok := hok.2 c1
    by_cases c2 : p1 = 1
    · have hf := hf.trans (if_pos c2)
      have hok := hok.1 c2
      refine g_switch (tgt := 52) hC d_BS_count_1 (fun i hi => by show i < 7; omega) (by rw [c2]; decide) ?_
      refine lv_aload_n hx hb d_BS_count_52 rfl (lv_at hl 0 rfl) ?_
      refine gr_0_6 hC hB fl_BS_37 d_BS_count_53 ?_
      refine gg_7_2 (x := (G 7 2)) hC hB rfl fl_BS_106 d_BS_count_56 ?_
      exact g_iret hC hB hr hlk (by decide) (by decide) (by rw [hf]) rfl d_BS_count_59
    · have hf := hf.trans (if_neg c2)
      have hok := hok.2 c2
      by_cases c3 : p1 = 2
      · have hf := hf.trans (if_pos c3)
        have hok := hok.1 c3
        refine g_switch (tgt := 60) hC d_BS_count_1 (fun i hi => by show i < 7; omega) (by rw [c3]; decide) ?_
        refine lv_aload_n hx hb d_BS_count_60 rfl (lv_at hl 0 rfl) ?_
        refine gr_0_6 hC hB fl_BS_37 d_BS_count_61 ?_
        refine gg_7_3 (x := (G 7 3)) hC hB rfl fl_BS_133 d_BS_count_64 ?_
        exact g_iret hC hB hr hlk (by decide) (by decide) (by rw [hf]) rfl d_BS_count_67
      · have hf := hf.trans (if_neg c3)
        have hok := hok.2 c3
        by_cases c4 : p1 = 3
        · have hf := hf.trans (if_pos c4)
          have hok := hok.1 c4
          refine g_switch (tgt := 68) hC d_BS_count_1 (fun i hi => by show i < 7; omega) (by rw [c4]; decide) ?_
          refine lv_aload_n hx hb d_BS_count_68 rfl (lv_at hl 0 rfl) ?_
          refine gr_0_6 hC hB fl_BS_37 d_BS_count_69 ?_
          refine gg_7_4 (x := (G 7 4)) hC hB rfl fl_BS_136 d_BS_count_72 ?_
          exact g_iret hC hB hr hlk (by decide) (by decide) (by rw [hf]) rfl d_BS_count_75
        · have hf := hf.trans (if_neg c4)
          have hok := hok.2 c4
          by_cases c5 : p1 = 4
          · have hf := hf.trans (if_pos c5)
            have hok := hok.1 c5
            refine g_switch (tgt := 76) hC d_BS_count_1 (fun i hi => by show i < 7; omega) (by rw [c5]; decide) ?_
            refine lv_aload_n hx hb d_BS_count_76 rfl (lv_at hl 0 rfl) ?_
            refine gg_0_3 (x := (G 0 3)) hC hB rfl fl_BS_52 d_BS_count_77 ?_
            exact g_iret hC hB hr hlk (by decide) (by decide) (by rw [hf]) rfl d_BS_count_80
          · have hf := hf.trans (if_neg c5)
            have hok := hok.2 c5
            by_cases c6 : p1 = 5
            · have hf := hf.trans (if_pos c6)
              have hok := hok.1 c6
              refine g_switch (tgt := 81) hC d_BS_count_1 (fun i hi => by show i < 7; omega) (by rw [c6]; decide) ?_
              refine lv_aload_n hx hb d_BS_count_81 rfl (lv_at hl 0 rfl) ?_
              refine g_callVi (b := ad 0) (As := []) (rest := []) hC hB (c_BS_marksKept l G O hok.1) rfl key_BS_marksKept rfl ins_BS_marksKept sel_BS_marksKept ml_BS_139 (g_rec0 hB) rfl hl.1 ⟨Nat.le_of_ble_eq_true rfl, Nat.le_of_ble_eq_true rfl, Nat.le_of_ble_eq_true rfl, Nat.le_of_ble_eq_true rfl⟩ d_BS_count_82 (fun H locs hB => ?_)
              have hok := hok.2
              exact g_iret hC hB hr hlk (by decide) (by decide) (by rw [hf]) rfl d_BS_count_85
            · have hf := hf.trans (if_neg c6)
              have hok := hok.2 c6
              by_cases c7 : p1 = 6
              · have hf := hf.trans (if_pos c7)
                have hok := hok.1 c7
                refine g_switch (tgt := 86) hC d_BS_count_1 (fun i hi => by show i < 7; omega) (by rw [c7]; decide) ?_
                refine lv_aload_n hx hb d_BS_count_86 rfl (lv_at hl 0 rfl) ?_
                refine g_callVi (b := ad 0) (As := []) (rest := []) hC hB (c_BS_state l G O hok.1) rfl key_BS_state rfl ins_BS_state sel_BS_state ml_BS_143 (g_rec0 hB) rfl hl.1 ⟨Nat.le_of_ble_eq_true rfl, Nat.le_of_ble_eq_true rfl, Nat.le_of_ble_eq_true rfl, Nat.le_of_ble_eq_true rfl⟩ d_BS_count_87 (fun H locs hB => ?_)
                have hok := hok.2
                exact g_iret hC hB hr hlk (by decide) (by decide) (by rw [hf]) rfl d_BS_count_90
              · have hf := hf.trans (if_neg c7)
                have hok := hok.2 c7
                refine g_switch (tgt := 91) hC d_BS_count_1 (fun i hi => by show i < 7; omega) ?_ ?_
                · have e0 := g_ne (k := 0) c1 (by decide)
                  have e1 := g_ne (k := 1) c2 (by decide)
                  have e2 := g_ne (k := 2) c3 (by decide)
                  have e3 := g_ne (k := 3) c4 (by decide)
                  have e4 := g_ne (k := 4) c5 (by decide)
                  have e5 := g_ne (k := 5) c6 (by decide)
                  have e6 := g_ne (k := 6) c7 (by decide)
                  have e : (p1).toInt < 0 ∨ 6 < (p1).toInt := by omega
                  generalize (p1).toInt = z at e ⊢
                  rcases e with e | e
                  · rw [g_swt, if_pos (by omega)]; decide
                  · rw [g_swt, if_pos (by omega)]; decide
                · refine lv_iconst (v := (-1)) hx hb d_BS_count_91 (by decide) ?_
                  exact g_iret hC hB hr hlk (by decide) (by decide) (by rw [hf]) rfl d_BS_count_92
end
section
abbrev rm_Ma_wouldWait_5 : Room := { frames := 0, cells := 0, slots := 0, locals := 0 }
def f_Ma_wouldWait_5 (G : gT) (p2 : Int32) : Int32 := (if (G 5 5) = 0 then (if (g_ush (G 1 ((G 5 1).toNatClampNeg)) 28) = 8 then (if (G 5 2) < p2 then 0 else 1) else 0) else 0)
def ok_Ma_wouldWait_5 (G : gT) (p2 : Int32) : Prop := (((G 5 5) = 0 → (vp_in (G 5 1) 64 ∧ True)) ∧ (¬ (G 5 5) = 0 → True))
set_option maxHeartbeats 4000000 in
set_option maxRecDepth 100000 in
theorem c_Ma_wouldWait_5 (l : Launch) (G : gT) (p2 : Int32) (O : Int64) (hok : ok_Ma_wouldWait_5 G p2) : gMet l y_Ma_wouldWait w_Ma_wouldWait rm_Ma_wouldWait_5 (fun ad => [.ref (ad 5), .ref (ad 1), .int p2]) G O (.inl (some (.int (f_Ma_wouldWait_5 G p2)))) G O := by
  refine g_body (by decide) (gCode_of _ _ _ _) (fun ad => by simp [lg_sl, Value.category]) ?_
  intro p e s0 s m args below meth c D cI cL ad hC hr hlk htb hB ls hl
  have hC : CallFix p m c b_Ma_wouldWait 3 s args gtb R_Ma := hC
  have hl : lv_has ls 3 [(0, .ref (ad 5)), (1, .ref (ad 1)), (2, .int p2)] := hl
  have hx := hC.1
  have hb := hC.2.1
  have hf : f_Ma_wouldWait_5 G p2 = (if (G 5 5) = 0 then (if (g_ush (G 1 ((G 5 1).toNatClampNeg)) 28) = 8 then (if (G 5 2) < p2 then 0 else 1) else 0) else 0) := rfl
  have hok : (((G 5 5) = 0 → (vp_in (G 5 1) 64 ∧ True)) ∧ (¬ (G 5 5) = 0 → True)) := hok
  refine lv_aload_n hx hb d_Ma_wouldWait_0 rfl (lv_at hl 0 rfl) ?_
  refine gg_5_5 (x := (G 5 5)) hC hB rfl fl_Ma_15 d_Ma_wouldWait_1 ?_
  refine lv_if_ne (tgt := 33) hx hb d_Ma_wouldWait_4 (by decide) (fun c1 => ?_) (fun c1 => ?_)
  · have hf := hf.trans (if_neg c1)
    have hok := hok.2 c1
    refine lv_iconst (v := 0) hx hb d_Ma_wouldWait_33 (by decide) ?_
    exact g_zret hC hB hr hlk (by decide) (by decide) (by decide) (by rw [hf]) rfl d_Ma_wouldWait_34
  · have hf := hf.trans (if_pos c1)
    have hok := hok.1 c1
    refine lv_aload_n hx hb d_Ma_wouldWait_7 rfl (lv_at hl 1 rfl) ?_
    refine lv_aload_n hx hb d_Ma_wouldWait_8 rfl (lv_at hl 0 rfl) ?_
    refine gg_5_1 (x := (G 5 1)) hC hB rfl fl_Ma_28 d_Ma_wouldWait_9 ?_
    refine ga_1 (x := (G 1 ((G 5 1).toNatClampNeg))) hC hB hok.1 rfl d_Ma_wouldWait_12 ?_
    have hok := hok.2
    refine lv_bipush (v := 28) hx hb d_Ma_wouldWait_13 (by decide) ?_
    refine lv_iushr (v := g_ush (G 1 ((G 5 1).toNatClampNeg)) 28) hx hb d_Ma_wouldWait_15 rfl ?_
    refine lv_bipush (v := 8) hx hb d_Ma_wouldWait_16 (by decide) ?_
    refine lv_icmp_ne (tgt := 33) hx hb d_Ma_wouldWait_18 (by decide) (fun c2 => ?_) (fun c2 => ?_)
    · have hf := hf.trans (if_neg c2)
      refine lv_iconst (v := 0) hx hb d_Ma_wouldWait_33 (by decide) ?_
      exact g_zret hC hB hr hlk (by decide) (by decide) (by decide) (by rw [hf]) rfl d_Ma_wouldWait_34
    · have hf := hf.trans (if_pos c2)
      refine lv_aload_n hx hb d_Ma_wouldWait_21 rfl (lv_at hl 0 rfl) ?_
      refine gg_5_2 (x := (G 5 2)) hC hB rfl fl_Ma_31 d_Ma_wouldWait_22 ?_
      refine lv_iload_n hx hb d_Ma_wouldWait_25 rfl (lv_at hl 2 rfl) ?_
      refine lv_icmp_lt (tgt := 33) hx hb d_Ma_wouldWait_26 (by decide) (fun c3 => ?_) (fun c3 => ?_)
      · have hf := hf.trans (if_pos c3)
        refine lv_iconst (v := 0) hx hb d_Ma_wouldWait_33 (by decide) ?_
        exact g_zret hC hB hr hlk (by decide) (by decide) (by decide) (by rw [hf]) rfl d_Ma_wouldWait_34
      · have hf := hf.trans (if_neg c3)
        refine lv_iconst (v := 1) hx hb d_Ma_wouldWait_29 (by decide) ?_
        refine lv_goto (tgt := 34) hx hb d_Ma_wouldWait_30 (by decide) ?_
        exact g_zret hC hB hr hlk (by decide) (by decide) (by decide) (by rw [hf]) rfl d_Ma_wouldWait_34
abbrev rm_Ma_rememberBefore_5 : Room := { frames := 0, cells := 0, slots := 0, locals := 0 }
def f_Ma_rememberBefore_5 (G : gT) : gT := (g_up (g_up (g_up (g_up (g_up G 5 6 (-1)) 5 8 (G 5 1)) 5 9 (G 5 2)) 5 10 (G 5 3)) 5 11 (G 5 4))
set_option maxHeartbeats 4000000 in
set_option maxRecDepth 100000 in
theorem c_Ma_rememberBefore_5 (l : Launch) (G : gT) (O : Int64) : gMet l y_Ma_rememberBefore w_Ma_rememberBefore rm_Ma_rememberBefore_5 (fun ad => [.ref (ad 5)]) G O (.inl (none)) (f_Ma_rememberBefore_5 G) O := by
  refine g_body (by decide) (gCode_of _ _ _ _) (fun ad => by simp [lg_sl, Value.category]) ?_
  intro p e s0 s m args below meth c D cI cL ad hC hr hlk htb hB ls hl
  have hC : CallFix p m c b_Ma_rememberBefore 1 s args gtb R_Ma := hC
  have hl : lv_has ls 1 [(0, .ref (ad 5))] := hl
  have hx := hC.1
  have hb := hC.2.1
  have hf : f_Ma_rememberBefore_5 G = (g_up (g_up (g_up (g_up (g_up G 5 6 (-1)) 5 8 (G 5 1)) 5 9 (G 5 2)) 5 10 (G 5 3)) 5 11 (G 5 4)) := rfl
  refine lv_aload_n hx hb d_Ma_rememberBefore_0 rfl (lv_at hl 0 rfl) ?_
  refine lv_iconst (v := (-1)) hx hb d_Ma_rememberBefore_1 (by decide) ?_
  refine gp_5_6 hC hB fl_Ma_19 d_Ma_rememberBefore_2 (fun H locs hB => ?_)
  refine lv_aload_n hx hb d_Ma_rememberBefore_5 rfl (lv_at hl 0 rfl) ?_
  refine lv_aload_n hx hb d_Ma_rememberBefore_6 rfl (lv_at hl 0 rfl) ?_
  refine gg_5_1 (x := (G 5 1)) hC hB rfl fl_Ma_28 d_Ma_rememberBefore_7 ?_
  refine gp_5_8 hC hB fl_Ma_61 d_Ma_rememberBefore_10 (fun H locs hB => ?_)
  refine lv_aload_n hx hb d_Ma_rememberBefore_13 rfl (lv_at hl 0 rfl) ?_
  refine lv_aload_n hx hb d_Ma_rememberBefore_14 rfl (lv_at hl 0 rfl) ?_
  refine gg_5_2 (x := (G 5 2)) hC hB rfl fl_Ma_31 d_Ma_rememberBefore_15 ?_
  refine gp_5_9 hC hB fl_Ma_64 d_Ma_rememberBefore_18 (fun H locs hB => ?_)
  refine lv_aload_n hx hb d_Ma_rememberBefore_21 rfl (lv_at hl 0 rfl) ?_
  refine lv_aload_n hx hb d_Ma_rememberBefore_22 rfl (lv_at hl 0 rfl) ?_
  refine gg_5_3 (x := (G 5 3)) hC hB rfl fl_Ma_34 d_Ma_rememberBefore_23 ?_
  refine gp_5_10 hC hB fl_Ma_67 d_Ma_rememberBefore_26 (fun H locs hB => ?_)
  refine lv_aload_n hx hb d_Ma_rememberBefore_29 rfl (lv_at hl 0 rfl) ?_
  refine lv_aload_n hx hb d_Ma_rememberBefore_30 rfl (lv_at hl 0 rfl) ?_
  refine gg_5_4 (x := (G 5 4)) hC hB rfl fl_Ma_37 d_Ma_rememberBefore_31 ?_
  refine gp_5_11 hC hB fl_Ma_70 d_Ma_rememberBefore_34 (fun H locs hB => ?_)
  exact g_vret hC hB hr hlk (by decide) (by decide) rfl hf d_Ma_rememberBefore_37
abbrev rm_Ma_stop_5 : Room := { frames := 0, cells := 0, slots := 0, locals := 0 }
def f_Ma_stop_5 (G : gT) (p1 : Int32) : gT := (g_up (g_up G 5 5 p1) 5 1 (G 5 8))
set_option maxHeartbeats 4000000 in
set_option maxRecDepth 100000 in
theorem c_Ma_stop_5 (l : Launch) (G : gT) (p1 : Int32) (O : Int64) : gMet l y_Ma_stop w_Ma_stop rm_Ma_stop_5 (fun ad => [.ref (ad 5), .int p1]) G O (.inl (none)) (f_Ma_stop_5 G p1) O := by
  refine g_body (by decide) (gCode_of _ _ _ _) (fun ad => by simp [lg_sl, Value.category]) ?_
  intro p e s0 s m args below meth c D cI cL ad hC hr hlk htb hB ls hl
  have hC : CallFix p m c b_Ma_stop 2 s args gtb R_Ma := hC
  have hl : lv_has ls 2 [(0, .ref (ad 5)), (1, .int p1)] := hl
  have hx := hC.1
  have hb := hC.2.1
  have hf : f_Ma_stop_5 G p1 = (g_up (g_up G 5 5 p1) 5 1 (G 5 8)) := rfl
  refine lv_aload_n hx hb d_Ma_stop_0 rfl (lv_at hl 0 rfl) ?_
  refine lv_iload_n hx hb d_Ma_stop_1 rfl (lv_at hl 1 rfl) ?_
  refine gp_5_5 hC hB fl_Ma_15 d_Ma_stop_2 (fun H locs hB => ?_)
  refine lv_aload_n hx hb d_Ma_stop_5 rfl (lv_at hl 0 rfl) ?_
  refine lv_aload_n hx hb d_Ma_stop_6 rfl (lv_at hl 0 rfl) ?_
  refine gg_5_8 (x := (G 5 8)) hC hB rfl fl_Ma_61 d_Ma_stop_7 ?_
  refine gp_5_1 hC hB fl_Ma_28 d_Ma_stop_10 (fun H locs hB => ?_)
  exact g_vret hC hB hr hlk (by decide) (by decide) rfl hf d_Ma_stop_13
abbrev rm_Ma_write_5 : Room := { frames := 0, cells := 0, slots := 0, locals := 0 }
def f_Ma_write_5 (G : gT) (p1 : Int32) (p2 : Int32) : gT := (g_up (g_up (g_up G 5 6 p1) 5 7 (G 6 p1.toNatClampNeg)) 6 p1.toNatClampNeg p2)
def ok_Ma_write_5 (G : gT) (p1 : Int32) (p2 : Int32) : Prop := (vp_in p1 264 ∧ (vp_in p1 264 ∧ True))
set_option maxHeartbeats 4000000 in
set_option maxRecDepth 100000 in
theorem c_Ma_write_5 (l : Launch) (G : gT) (p1 : Int32) (p2 : Int32) (O : Int64) (hok : ok_Ma_write_5 G p1 p2) : gMet l y_Ma_write w_Ma_write rm_Ma_write_5 (fun ad => [.ref (ad 5), .int p1, .int p2]) G O (.inl (none)) (f_Ma_write_5 G p1 p2) O := by
  refine g_body (by decide) (gCode_of _ _ _ _) (fun ad => by simp [lg_sl, Value.category]) ?_
  intro p e s0 s m args below meth c D cI cL ad hC hr hlk htb hB ls hl
  have hC : CallFix p m c b_Ma_write 3 s args gtb R_Ma := hC
  have hl : lv_has ls 3 [(0, .ref (ad 5)), (1, .int p1), (2, .int p2)] := hl
  have hx := hC.1
  have hb := hC.2.1
  have hf : f_Ma_write_5 G p1 p2 = (g_up (g_up (g_up G 5 6 p1) 5 7 (G 6 p1.toNatClampNeg)) 6 p1.toNatClampNeg p2) := rfl
  have hok : (vp_in p1 264 ∧ (vp_in p1 264 ∧ True)) := hok
  refine lv_aload_n hx hb d_Ma_write_0 rfl (lv_at hl 0 rfl) ?_
  refine lv_iload_n hx hb d_Ma_write_1 rfl (lv_at hl 1 rfl) ?_
  refine gp_5_6 hC hB fl_Ma_19 d_Ma_write_2 (fun H locs hB => ?_)
  refine lv_aload_n hx hb d_Ma_write_5 rfl (lv_at hl 0 rfl) ?_
  refine lv_aload_n hx hb d_Ma_write_6 rfl (lv_at hl 0 rfl) ?_
  refine gr_5_0 hC hB fl_Ma_9 d_Ma_write_7 ?_
  refine lv_iload_n hx hb d_Ma_write_10 rfl (lv_at hl 1 rfl) ?_
  refine ga_6 (x := (G 6 p1.toNatClampNeg)) hC hB hok.1 rfl d_Ma_write_11 ?_
  have hok := hok.2
  refine gp_5_7 hC hB fl_Ma_77 d_Ma_write_12 (fun H locs hB => ?_)
  refine lv_aload_n hx hb d_Ma_write_15 rfl (lv_at hl 0 rfl) ?_
  refine gr_5_0 hC hB fl_Ma_9 d_Ma_write_16 ?_
  refine lv_iload_n hx hb d_Ma_write_19 rfl (lv_at hl 1 rfl) ?_
  refine lv_iload_n hx hb d_Ma_write_20 rfl (lv_at hl 2 rfl) ?_
  refine gs_6 hC hB hok.1 d_Ma_write_21 (fun H locs hB => ?_)
  have hok := hok.2
  exact g_vret hC hB hr hlk (by decide) (by decide) rfl hf d_Ma_write_22
abbrev rm_Ma_compute_5 : Room := { frames := 1, cells := 0, slots := 0, locals := 14 }
def f_Ma_compute_5 (G : gT) (p1 : Int32) (p2 : Int32) : gT := (if p1 = 0 then (f_Ma_stop_5 G 1) else (if p1 = 1 then (f_Ma_write_5 G (f_Ma_register G p2 24) p2.toInt16.toInt32) else (if p1 = 2 then (f_Ma_write_5 G (f_Ma_register G p2 24) ((G 6 ((f_Ma_register G p2 20).toNatClampNeg)) + (G 6 ((f_Ma_register G p2 16).toNatClampNeg)))) else (if p1 = 3 then (f_Ma_write_5 G (f_Ma_register G p2 24) ((G 6 ((f_Ma_register G p2 20).toNatClampNeg)) - (G 6 ((f_Ma_register G p2 16).toNatClampNeg)))) else (if p1 = 4 then (f_Ma_write_5 G (f_Ma_register G p2 24) ((G 6 ((f_Ma_register G p2 20).toNatClampNeg)) ^^^ (G 6 ((f_Ma_register G p2 16).toNatClampNeg)))) else (if p1 = 10 then (f_Ma_write_5 G (f_Ma_register G p2 24) (g_ush (G 6 ((f_Ma_register G p2 20).toNatClampNeg)) ((G 6 ((f_Ma_register G p2 16).toNatClampNeg)) &&& 31))) else (if p1 = 11 then (f_Ma_write_5 G (f_Ma_register G p2 24) ((G 6 ((f_Ma_register G p2 20).toNatClampNeg)) * (G 6 ((f_Ma_register G p2 16).toNatClampNeg)))) else (if p1 = 12 then (if (G 6 ((f_Ma_register G p2 16).toNatClampNeg)) ≤ (G 6 ((f_Ma_register G p2 20).toNatClampNeg)) then (f_Ma_write_5 G (f_Ma_register G p2 24) 0) else (f_Ma_write_5 G (f_Ma_register G p2 24) 1)) else (f_Ma_stop_5 G 2)))))))))
def ok_Ma_compute_5 (G : gT) (p1 : Int32) (p2 : Int32) : Prop := (vp_in (f_Ma_register G p2 20) 264 ∧ (vp_in (f_Ma_register G p2 16) 264 ∧ ((p1 = 0 → True) ∧ (¬ p1 = 0 → ((p1 = 1 → (ok_Ma_write_5 G (f_Ma_register G p2 24) p2.toInt16.toInt32 ∧ True)) ∧ (¬ p1 = 1 → ((p1 = 2 → (ok_Ma_write_5 G (f_Ma_register G p2 24) ((G 6 ((f_Ma_register G p2 20).toNatClampNeg)) + (G 6 ((f_Ma_register G p2 16).toNatClampNeg))) ∧ True)) ∧ (¬ p1 = 2 → ((p1 = 3 → (ok_Ma_write_5 G (f_Ma_register G p2 24) ((G 6 ((f_Ma_register G p2 20).toNatClampNeg)) - (G 6 ((f_Ma_register G p2 16).toNatClampNeg))) ∧ True)) ∧ (¬ p1 = 3 → ((p1 = 4 → (ok_Ma_write_5 G (f_Ma_register G p2 24) ((G 6 ((f_Ma_register G p2 20).toNatClampNeg)) ^^^ (G 6 ((f_Ma_register G p2 16).toNatClampNeg))) ∧ True)) ∧ (¬ p1 = 4 → ((p1 = 10 → (ok_Ma_write_5 G (f_Ma_register G p2 24) (g_ush (G 6 ((f_Ma_register G p2 20).toNatClampNeg)) ((G 6 ((f_Ma_register G p2 16).toNatClampNeg)) &&& 31)) ∧ True)) ∧ (¬ p1 = 10 → ((p1 = 11 → (ok_Ma_write_5 G (f_Ma_register G p2 24) ((G 6 ((f_Ma_register G p2 20).toNatClampNeg)) * (G 6 ((f_Ma_register G p2 16).toNatClampNeg))) ∧ True)) ∧ (¬ p1 = 11 → ((p1 = 12 → (((G 6 ((f_Ma_register G p2 16).toNatClampNeg)) ≤ (G 6 ((f_Ma_register G p2 20).toNatClampNeg)) → (ok_Ma_write_5 G (f_Ma_register G p2 24) 0 ∧ True)) ∧ (¬ (G 6 ((f_Ma_register G p2 16).toNatClampNeg)) ≤ (G 6 ((f_Ma_register G p2 20).toNatClampNeg)) → (ok_Ma_write_5 G (f_Ma_register G p2 24) 1 ∧ True)))) ∧ (¬ p1 = 12 → True))))))))))))))))))
set_option maxHeartbeats 4000000 in
set_option maxRecDepth 100000 in
theorem c_Ma_compute_5 (l : Launch) (G : gT) (p1 : Int32) (p2 : Int32) (O : Int64) (hok : ok_Ma_compute_5 G p1 p2) : gMet l y_Ma_compute w_Ma_compute rm_Ma_compute_5 (fun ad => [.ref (ad 5), .int p1, .int p2]) G O (.inl (none)) (f_Ma_compute_5 G p1 p2) O := by
  refine g_body (by decide) (gCode_of _ _ _ _) (fun ad => by simp [lg_sl, Value.category]) ?_
  intro p e s0 s m args below meth c D cI cL ad hC hr hlk htb hB ls hl
  have hC : CallFix p m c b_Ma_compute 6 s args gtb R_Ma := hC
  have hl : lv_has ls 6 [(0, .ref (ad 5)), (1, .int p1), (2, .int p2)] := hl
  have hx := hC.1
  have hb := hC.2.1
  have hf : f_Ma_compute_5 G p1 p2 = (if p1 = 0 then (f_Ma_stop_5 G 1) else (if p1 = 1 then (f_Ma_write_5 G (f_Ma_register G p2 24) p2.toInt16.toInt32) else (if p1 = 2 then (f_Ma_write_5 G (f_Ma_register G p2 24) ((G 6 ((f_Ma_register G p2 20).toNatClampNeg)) + (G 6 ((f_Ma_register G p2 16).toNatClampNeg)))) else (if p1 = 3 then (f_Ma_write_5 G (f_Ma_register G p2 24) ((G 6 ((f_Ma_register G p2 20).toNatClampNeg)) - (G 6 ((f_Ma_register G p2 16).toNatClampNeg)))) else (if p1 = 4 then (f_Ma_write_5 G (f_Ma_register G p2 24) ((G 6 ((f_Ma_register G p2 20).toNatClampNeg)) ^^^ (G 6 ((f_Ma_register G p2 16).toNatClampNeg)))) else (if p1 = 10 then (f_Ma_write_5 G (f_Ma_register G p2 24) (g_ush (G 6 ((f_Ma_register G p2 20).toNatClampNeg)) ((G 6 ((f_Ma_register G p2 16).toNatClampNeg)) &&& 31))) else (if p1 = 11 then (f_Ma_write_5 G (f_Ma_register G p2 24) ((G 6 ((f_Ma_register G p2 20).toNatClampNeg)) * (G 6 ((f_Ma_register G p2 16).toNatClampNeg)))) else (if p1 = 12 then (if (G 6 ((f_Ma_register G p2 16).toNatClampNeg)) ≤ (G 6 ((f_Ma_register G p2 20).toNatClampNeg)) then (f_Ma_write_5 G (f_Ma_register G p2 24) 0) else (f_Ma_write_5 G (f_Ma_register G p2 24) 1)) else (f_Ma_stop_5 G 2))))))))) := rfl
  have hok : (vp_in (f_Ma_register G p2 20) 264 ∧ (vp_in (f_Ma_register G p2 16) 264 ∧ ((p1 = 0 → True) ∧ (¬ p1 = 0 → ((p1 = 1 → (ok_Ma_write_5 G (f_Ma_register G p2 24) p2.toInt16.toInt32 ∧ True)) ∧ (¬ p1 = 1 → ((p1 = 2 → (ok_Ma_write_5 G (f_Ma_register G p2 24) ((G 6 ((f_Ma_register G p2 20).toNatClampNeg)) + (G 6 ((f_Ma_register G p2 16).toNatClampNeg))) ∧ True)) ∧ (¬ p1 = 2 → ((p1 = 3 → (ok_Ma_write_5 G (f_Ma_register G p2 24) ((G 6 ((f_Ma_register G p2 20).toNatClampNeg)) - (G 6 ((f_Ma_register G p2 16).toNatClampNeg))) ∧ True)) ∧ (¬ p1 = 3 → ((p1 = 4 → (ok_Ma_write_5 G (f_Ma_register G p2 24) ((G 6 ((f_Ma_register G p2 20).toNatClampNeg)) ^^^ (G 6 ((f_Ma_register G p2 16).toNatClampNeg))) ∧ True)) ∧ (¬ p1 = 4 → ((p1 = 10 → (ok_Ma_write_5 G (f_Ma_register G p2 24) (g_ush (G 6 ((f_Ma_register G p2 20).toNatClampNeg)) ((G 6 ((f_Ma_register G p2 16).toNatClampNeg)) &&& 31)) ∧ True)) ∧ (¬ p1 = 10 → ((p1 = 11 → (ok_Ma_write_5 G (f_Ma_register G p2 24) ((G 6 ((f_Ma_register G p2 20).toNatClampNeg)) * (G 6 ((f_Ma_register G p2 16).toNatClampNeg))) ∧ True)) ∧ (¬ p1 = 11 → ((p1 = 12 → (((G 6 ((f_Ma_register G p2 16).toNatClampNeg)) ≤ (G 6 ((f_Ma_register G p2 20).toNatClampNeg)) → (ok_Ma_write_5 G (f_Ma_register G p2 24) 0 ∧ True)) ∧ (¬ (G 6 ((f_Ma_register G p2 16).toNatClampNeg)) ≤ (G 6 ((f_Ma_register G p2 20).toNatClampNeg)) → (ok_Ma_write_5 G (f_Ma_register G p2 24) 1 ∧ True)))) ∧ (¬ p1 = 12 → True)))))))))))))))))) := hok
  refine lv_iload_n hx hb d_Ma_compute_0 rfl (lv_at hl 2 rfl) ?_
  refine lv_bipush (v := 24) hx hb d_Ma_compute_1 (by decide) ?_
  refine g_callSi (As := [.int p2, .int 24]) (rest := []) hC hB (c_Ma_register l G p2 24 O) rfl key_Ma_register rfl sta_Ma_register ml_Ma_47 rfl hl.1 ⟨Nat.le_of_ble_eq_true rfl, Nat.le_of_ble_eq_true rfl, Nat.le_of_ble_eq_true rfl, Nat.le_of_ble_eq_true rfl⟩ d_Ma_compute_3 (fun H locs hB => ?_)
  refine lv_istore_n (lv' := [(3, .int (f_Ma_register G p2 24)), (0, .ref (ad 5)), (1, .int p1), (2, .int p2)]) hx hb d_Ma_compute_6 rfl hl (by decide) rfl (fun ls hl => ?_)
  refine lv_aload_n hx hb d_Ma_compute_7 rfl (lv_at hl 1 rfl) ?_
  refine gr_5_0 hC hB fl_Ma_9 d_Ma_compute_8 ?_
  refine lv_iload_n hx hb d_Ma_compute_11 rfl (lv_at hl 3 rfl) ?_
  refine lv_bipush (v := 20) hx hb d_Ma_compute_12 (by decide) ?_
  refine g_callSi (As := [.int p2, .int 20]) (rest := [.ref (ad 6)]) hC hB (c_Ma_register l G p2 20 O) rfl key_Ma_register rfl sta_Ma_register ml_Ma_47 rfl hl.1 ⟨Nat.le_of_ble_eq_true rfl, Nat.le_of_ble_eq_true rfl, Nat.le_of_ble_eq_true rfl, Nat.le_of_ble_eq_true rfl⟩ d_Ma_compute_14 (fun H locs hB => ?_)
  refine ga_6 (x := (G 6 ((f_Ma_register G p2 20).toNatClampNeg))) hC hB hok.1 rfl d_Ma_compute_17 ?_
  have hok := hok.2
  refine lv_istore (lv' := [(4, .int (G 6 ((f_Ma_register G p2 20).toNatClampNeg))), (3, .int (f_Ma_register G p2 24)), (0, .ref (ad 5)), (1, .int p1), (2, .int p2)]) hx hb d_Ma_compute_18 hl (by decide) rfl (fun ls hl => ?_)
  refine lv_aload_n hx hb d_Ma_compute_20 rfl (lv_at hl 2 rfl) ?_
  refine gr_5_0 hC hB fl_Ma_9 d_Ma_compute_21 ?_
  refine lv_iload_n hx hb d_Ma_compute_24 rfl (lv_at hl 4 rfl) ?_
  refine lv_bipush (v := 16) hx hb d_Ma_compute_25 (by decide) ?_
  refine g_callSi (As := [.int p2, .int 16]) (rest := [.ref (ad 6)]) hC hB (c_Ma_register l G p2 16 O) rfl key_Ma_register rfl sta_Ma_register ml_Ma_47 rfl hl.1 ⟨Nat.le_of_ble_eq_true rfl, Nat.le_of_ble_eq_true rfl, Nat.le_of_ble_eq_true rfl, Nat.le_of_ble_eq_true rfl⟩ d_Ma_compute_27 (fun H locs hB => ?_)
  refine ga_6 (x := (G 6 ((f_Ma_register G p2 16).toNatClampNeg))) hC hB hok.1 rfl d_Ma_compute_30 ?_
  have hok := hok.2
  refine lv_istore (lv' := [(5, .int (G 6 ((f_Ma_register G p2 16).toNatClampNeg))), (4, .int (G 6 ((f_Ma_register G p2 20).toNatClampNeg))), (3, .int (f_Ma_register G p2 24)), (0, .ref (ad 5)), (1, .int p1), (2, .int p2)]) hx hb d_Ma_compute_31 hl (by decide) rfl (fun ls hl => ?_)
  refine lv_iload_n hx hb d_Ma_compute_33 rfl (lv_at hl 4 rfl) ?_
  by_cases c2 : p1 = 0
  · have hf := hf.trans (if_pos c2)
    have hok := hok.1 c2
    refine g_switch (tgt := 100) hC d_Ma_compute_34 (fun i hi => by show i < 13; omega) (by rw [c2]; decide) ?_
    refine lv_aload_n hx hb d_Ma_compute_100 rfl (lv_at hl 3 rfl) ?_
    refine lv_iconst (v := 1) hx hb d_Ma_compute_101 (by decide) ?_
    refine g_callVv (b := ad 5) (As := [.int 1]) (rest := []) hC hB (c_Ma_stop_5 l G 1 O) rfl key_Ma_stop rfl ins_Ma_stop sel_Ma_stop ml_Ma_73 (g_rec5 hB) rfl hl.1 ⟨Nat.le_of_ble_eq_true rfl, Nat.le_of_ble_eq_true rfl, Nat.le_of_ble_eq_true rfl, Nat.le_of_ble_eq_true rfl⟩ d_Ma_compute_102 (fun H locs hB => ?_)
    refine lv_goto (tgt := 211) hx hb d_Ma_compute_105 (by decide) ?_
    exact g_vret hC hB hr hlk (by decide) (by decide) rfl hf d_Ma_compute_211
  · have hf := hf.trans (if_neg c2)
    have hok := hok.2 c2
    by_cases c3 : p1 = 1
    · have hf := hf.trans (if_pos c3)
      have hok := hok.1 c3
      refine g_switch (tgt := 108) hC d_Ma_compute_34 (fun i hi => by show i < 13; omega) (by rw [c3]; decide) ?_
      refine lv_aload_n hx hb d_Ma_compute_108 rfl (lv_at hl 3 rfl) ?_
      refine lv_iload_n hx hb d_Ma_compute_109 rfl (lv_at hl 2 rfl) ?_
      refine lv_iload_n hx hb d_Ma_compute_110 rfl (lv_at hl 5 rfl) ?_
      refine lv_i2s (v := p2.toInt16.toInt32) hx hb d_Ma_compute_111 rfl ?_
      refine g_callVv (b := ad 5) (As := [.int (f_Ma_register G p2 24), .int p2.toInt16.toInt32]) (rest := []) hC hB (c_Ma_write_5 l G (f_Ma_register G p2 24) p2.toInt16.toInt32 O hok.1) rfl key_Ma_write rfl ins_Ma_write sel_Ma_write ml_Ma_51 (g_rec5 hB) rfl hl.1 ⟨Nat.le_of_ble_eq_true rfl, Nat.le_of_ble_eq_true rfl, Nat.le_of_ble_eq_true rfl, Nat.le_of_ble_eq_true rfl⟩ d_Ma_compute_112 (fun H locs hB => ?_)
      have hok := hok.2
      refine lv_goto (tgt := 211) hx hb d_Ma_compute_115 (by decide) ?_
      exact g_vret hC hB hr hlk (by decide) (by decide) rfl hf d_Ma_compute_211
    · have hf := hf.trans (if_neg c3)
      have hok := hok.2 c3
      by_cases c4 : p1 = 2
      · have hf := hf.trans (if_pos c4)
        have hok := hok.1 c4
        refine g_switch (tgt := 118) hC d_Ma_compute_34 (fun i hi => by show i < 13; omega) (by rw [c4]; decide) ?_
        refine lv_aload_n hx hb d_Ma_compute_118 rfl (lv_at hl 3 rfl) ?_
        refine lv_iload_n hx hb d_Ma_compute_119 rfl (lv_at hl 2 rfl) ?_
        refine lv_iload hx hb d_Ma_compute_120 (lv_at hl 1 rfl) ?_
        refine lv_iload hx hb d_Ma_compute_122 (lv_at hl 0 rfl) ?_
        refine lv_iadd hx hb d_Ma_compute_124 ?_
        refine g_callVv (b := ad 5) (As := [.int (f_Ma_register G p2 24), .int ((G 6 ((f_Ma_register G p2 20).toNatClampNeg)) + (G 6 ((f_Ma_register G p2 16).toNatClampNeg)))]) (rest := []) hC hB (c_Ma_write_5 l G (f_Ma_register G p2 24) ((G 6 ((f_Ma_register G p2 20).toNatClampNeg)) + (G 6 ((f_Ma_register G p2 16).toNatClampNeg))) O hok.1) rfl key_Ma_write rfl ins_Ma_write sel_Ma_write ml_Ma_51 (g_rec5 hB) rfl hl.1 ⟨Nat.le_of_ble_eq_true rfl, Nat.le_of_ble_eq_true rfl, Nat.le_of_ble_eq_true rfl, Nat.le_of_ble_eq_true rfl⟩ d_Ma_compute_125 (fun H locs hB => ?_)
        have hok := hok.2
        refine lv_goto (tgt := 211) hx hb d_Ma_compute_128 (by decide) ?_
        exact g_vret hC hB hr hlk (by decide) (by decide) rfl hf d_Ma_compute_211
      · have hf := hf.trans (if_neg c4)
        have hok := hok.2 c4
        by_cases c5 : p1 = 3
        · have hf := hf.trans (if_pos c5)
          have hok := hok.1 c5
          refine g_switch (tgt := 131) hC d_Ma_compute_34 (fun i hi => by show i < 13; omega) (by rw [c5]; decide) ?_
          refine lv_aload_n hx hb d_Ma_compute_131 rfl (lv_at hl 3 rfl) ?_
          refine lv_iload_n hx hb d_Ma_compute_132 rfl (lv_at hl 2 rfl) ?_
          refine lv_iload hx hb d_Ma_compute_133 (lv_at hl 1 rfl) ?_
          refine lv_iload hx hb d_Ma_compute_135 (lv_at hl 0 rfl) ?_
          refine lv_isub hx hb d_Ma_compute_137 ?_
          refine g_callVv (b := ad 5) (As := [.int (f_Ma_register G p2 24), .int ((G 6 ((f_Ma_register G p2 20).toNatClampNeg)) - (G 6 ((f_Ma_register G p2 16).toNatClampNeg)))]) (rest := []) hC hB (c_Ma_write_5 l G (f_Ma_register G p2 24) ((G 6 ((f_Ma_register G p2 20).toNatClampNeg)) - (G 6 ((f_Ma_register G p2 16).toNatClampNeg))) O hok.1) rfl key_Ma_write rfl ins_Ma_write sel_Ma_write ml_Ma_51 (g_rec5 hB) rfl hl.1 ⟨Nat.le_of_ble_eq_true rfl, Nat.le_of_ble_eq_true rfl, Nat.le_of_ble_eq_true rfl, Nat.le_of_ble_eq_true rfl⟩ d_Ma_compute_138 (fun H locs hB => ?_)
          have hok := hok.2
          refine lv_goto (tgt := 211) hx hb d_Ma_compute_141 (by decide) ?_
          exact g_vret hC hB hr hlk (by decide) (by decide) rfl hf d_Ma_compute_211
        · have hf := hf.trans (if_neg c5)
          have hok := hok.2 c5
          by_cases c6 : p1 = 4
          · have hf := hf.trans (if_pos c6)
            have hok := hok.1 c6
            refine g_switch (tgt := 144) hC d_Ma_compute_34 (fun i hi => by show i < 13; omega) (by rw [c6]; decide) ?_
            refine lv_aload_n hx hb d_Ma_compute_144 rfl (lv_at hl 3 rfl) ?_
            refine lv_iload_n hx hb d_Ma_compute_145 rfl (lv_at hl 2 rfl) ?_
            refine lv_iload hx hb d_Ma_compute_146 (lv_at hl 1 rfl) ?_
            refine lv_iload hx hb d_Ma_compute_148 (lv_at hl 0 rfl) ?_
            refine lv_ixor hx hb d_Ma_compute_150 ?_
            refine g_callVv (b := ad 5) (As := [.int (f_Ma_register G p2 24), .int ((G 6 ((f_Ma_register G p2 20).toNatClampNeg)) ^^^ (G 6 ((f_Ma_register G p2 16).toNatClampNeg)))]) (rest := []) hC hB (c_Ma_write_5 l G (f_Ma_register G p2 24) ((G 6 ((f_Ma_register G p2 20).toNatClampNeg)) ^^^ (G 6 ((f_Ma_register G p2 16).toNatClampNeg))) O hok.1) rfl key_Ma_write rfl ins_Ma_write sel_Ma_write ml_Ma_51 (g_rec5 hB) rfl hl.1 ⟨Nat.le_of_ble_eq_true rfl, Nat.le_of_ble_eq_true rfl, Nat.le_of_ble_eq_true rfl, Nat.le_of_ble_eq_true rfl⟩ d_Ma_compute_151 (fun H locs hB => ?_)
            have hok := hok.2
            refine lv_goto (tgt := 211) hx hb d_Ma_compute_154 (by decide) ?_
            exact g_vret hC hB hr hlk (by decide) (by decide) rfl hf d_Ma_compute_211
          · have hf := hf.trans (if_neg c6)
            have hok := hok.2 c6
            by_cases c7 : p1 = 10
            · have hf := hf.trans (if_pos c7)
              have hok := hok.1 c7
              refine g_switch (tgt := 157) hC d_Ma_compute_34 (fun i hi => by show i < 13; omega) (by rw [c7]; decide) ?_
              refine lv_aload_n hx hb d_Ma_compute_157 rfl (lv_at hl 3 rfl) ?_
              refine lv_iload_n hx hb d_Ma_compute_158 rfl (lv_at hl 2 rfl) ?_
              refine lv_iload hx hb d_Ma_compute_159 (lv_at hl 1 rfl) ?_
              refine lv_iload hx hb d_Ma_compute_161 (lv_at hl 0 rfl) ?_
              refine lv_bipush (v := 31) hx hb d_Ma_compute_163 (by decide) ?_
              refine lv_iand hx hb d_Ma_compute_165 ?_
              refine lv_iushr (v := g_ush (G 6 ((f_Ma_register G p2 20).toNatClampNeg)) ((G 6 ((f_Ma_register G p2 16).toNatClampNeg)) &&& 31)) hx hb d_Ma_compute_166 rfl ?_
              refine g_callVv (b := ad 5) (As := [.int (f_Ma_register G p2 24), .int (g_ush (G 6 ((f_Ma_register G p2 20).toNatClampNeg)) ((G 6 ((f_Ma_register G p2 16).toNatClampNeg)) &&& 31))]) (rest := []) hC hB (c_Ma_write_5 l G (f_Ma_register G p2 24) (g_ush (G 6 ((f_Ma_register G p2 20).toNatClampNeg)) ((G 6 ((f_Ma_register G p2 16).toNatClampNeg)) &&& 31)) O hok.1) rfl key_Ma_write rfl ins_Ma_write sel_Ma_write ml_Ma_51 (g_rec5 hB) rfl hl.1 ⟨Nat.le_of_ble_eq_true rfl, Nat.le_of_ble_eq_true rfl, Nat.le_of_ble_eq_true rfl, Nat.le_of_ble_eq_true rfl⟩ d_Ma_compute_167 (fun H locs hB => ?_)
              have hok := hok.2
              refine lv_goto (tgt := 211) hx hb d_Ma_compute_170 (by decide) ?_
              exact g_vret hC hB hr hlk (by decide) (by decide) rfl hf d_Ma_compute_211
            · have hf := hf.trans (if_neg c7)
              have hok := hok.2 c7
              by_cases c8 : p1 = 11
              · have hf := hf.trans (if_pos c8)
                have hok := hok.1 c8
                refine g_switch (tgt := 173) hC d_Ma_compute_34 (fun i hi => by show i < 13; omega) (by rw [c8]; decide) ?_
                refine lv_aload_n hx hb d_Ma_compute_173 rfl (lv_at hl 3 rfl) ?_
                refine lv_iload_n hx hb d_Ma_compute_174 rfl (lv_at hl 2 rfl) ?_
                refine lv_iload hx hb d_Ma_compute_175 (lv_at hl 1 rfl) ?_
                refine lv_iload hx hb d_Ma_compute_177 (lv_at hl 0 rfl) ?_
                refine lv_imul hx hb d_Ma_compute_179 ?_
                refine g_callVv (b := ad 5) (As := [.int (f_Ma_register G p2 24), .int ((G 6 ((f_Ma_register G p2 20).toNatClampNeg)) * (G 6 ((f_Ma_register G p2 16).toNatClampNeg)))]) (rest := []) hC hB (c_Ma_write_5 l G (f_Ma_register G p2 24) ((G 6 ((f_Ma_register G p2 20).toNatClampNeg)) * (G 6 ((f_Ma_register G p2 16).toNatClampNeg))) O hok.1) rfl key_Ma_write rfl ins_Ma_write sel_Ma_write ml_Ma_51 (g_rec5 hB) rfl hl.1 ⟨Nat.le_of_ble_eq_true rfl, Nat.le_of_ble_eq_true rfl, Nat.le_of_ble_eq_true rfl, Nat.le_of_ble_eq_true rfl⟩ d_Ma_compute_180 (fun H locs hB => ?_)
                have hok := hok.2
                refine lv_goto (tgt := 211) hx hb d_Ma_compute_183 (by decide) ?_
                exact g_vret hC hB hr hlk (by decide) (by decide) rfl hf d_Ma_compute_211
              · have hf := hf.trans (if_neg c8)
                have hok := hok.2 c8
                by_cases c9 : p1 = 12
                · have hf := hf.trans (if_pos c9)
                  have hok := hok.1 c9
                  refine g_switch (tgt := 186) hC d_Ma_compute_34 (fun i hi => by show i < 13; omega) (by rw [c9]; decide) ?_
                  refine lv_aload_n hx hb d_Ma_compute_186 rfl (lv_at hl 3 rfl) ?_
                  refine lv_iload_n hx hb d_Ma_compute_187 rfl (lv_at hl 2 rfl) ?_
                  refine lv_iload hx hb d_Ma_compute_188 (lv_at hl 1 rfl) ?_
                  refine lv_iload hx hb d_Ma_compute_190 (lv_at hl 0 rfl) ?_
                  refine lv_icmp_ge (tgt := 199) hx hb d_Ma_compute_192 (by decide) (fun c1 => ?_) (fun c1 => ?_)
                  · have hf := hf.trans (if_pos c1)
                    have hok := hok.1 c1
                    refine lv_iconst (v := 0) hx hb d_Ma_compute_199 (by decide) ?_
                    refine g_callVv (b := ad 5) (As := [.int (f_Ma_register G p2 24), .int 0]) (rest := []) hC hB (c_Ma_write_5 l G (f_Ma_register G p2 24) 0 O hok.1) rfl key_Ma_write rfl ins_Ma_write sel_Ma_write ml_Ma_51 (g_rec5 hB) rfl hl.1 ⟨Nat.le_of_ble_eq_true rfl, Nat.le_of_ble_eq_true rfl, Nat.le_of_ble_eq_true rfl, Nat.le_of_ble_eq_true rfl⟩ d_Ma_compute_200 (fun H locs hB => ?_)
                    have hok := hok.2
                    refine lv_goto (tgt := 211) hx hb d_Ma_compute_203 (by decide) ?_
                    exact g_vret hC hB hr hlk (by decide) (by decide) rfl hf d_Ma_compute_211
                  · have hf := hf.trans (if_neg c1)
                    have hok := hok.2 c1
                    refine lv_iconst (v := 1) hx hb d_Ma_compute_195 (by decide) ?_
                    refine lv_goto (tgt := 200) hx hb d_Ma_compute_196 (by decide) ?_
                    refine g_callVv (b := ad 5) (As := [.int (f_Ma_register G p2 24), .int 1]) (rest := []) hC hB (c_Ma_write_5 l G (f_Ma_register G p2 24) 1 O hok.1) rfl key_Ma_write rfl ins_Ma_write sel_Ma_write ml_Ma_51 (g_rec5 hB) rfl hl.1 ⟨Nat.le_of_ble_eq_true rfl, Nat.le_of_ble_eq_true rfl, Nat.le_of_ble_eq_true rfl, Nat.le_of_ble_eq_true rfl⟩ d_Ma_compute_200 (fun H locs hB => ?_)
                    have hok := hok.2
                    refine lv_goto (tgt := 211) hx hb d_Ma_compute_203 (by decide) ?_
                    exact g_vret hC hB hr hlk (by decide) (by decide) rfl hf d_Ma_compute_211
                · have hf := hf.trans (if_neg c9)
                  have hok := hok.2 c9
                  refine g_switch (tgt := 206) hC d_Ma_compute_34 (fun i hi => by show i < 13; omega) ?_ ?_
                  · have e0 := g_ne (k := 0) c2 (by decide)
                    have e1 := g_ne (k := 1) c3 (by decide)
                    have e2 := g_ne (k := 2) c4 (by decide)
                    have e3 := g_ne (k := 3) c5 (by decide)
                    have e4 := g_ne (k := 4) c6 (by decide)
                    have e5 := g_ne (k := 10) c7 (by decide)
                    have e6 := g_ne (k := 11) c8 (by decide)
                    have e7 := g_ne (k := 12) c9 (by decide)
                    have e : (p1).toInt < 0 ∨ (p1).toInt = 5 ∨ (p1).toInt = 6 ∨ (p1).toInt = 7 ∨ (p1).toInt = 8 ∨ (p1).toInt = 9 ∨ 12 < (p1).toInt := by omega
                    generalize (p1).toInt = z at e ⊢
                    rcases e with e | e | e | e | e | e | e
                    · rw [g_swt, if_pos (by omega)]; decide
                    · rw [e]; decide
                    · rw [e]; decide
                    · rw [e]; decide
                    · rw [e]; decide
                    · rw [e]; decide
                    · rw [g_swt, if_pos (by omega)]; decide
                  · refine lv_aload_n hx hb d_Ma_compute_206 rfl (lv_at hl 3 rfl) ?_
                    refine lv_iconst (v := 2) hx hb d_Ma_compute_207 (by decide) ?_
                    refine g_callVv (b := ad 5) (As := [.int 2]) (rest := []) hC hB (c_Ma_stop_5 l G 2 O) rfl key_Ma_stop rfl ins_Ma_stop sel_Ma_stop ml_Ma_73 (g_rec5 hB) rfl hl.1 ⟨Nat.le_of_ble_eq_true rfl, Nat.le_of_ble_eq_true rfl, Nat.le_of_ble_eq_true rfl, Nat.le_of_ble_eq_true rfl⟩ d_Ma_compute_208 (fun H locs hB => ?_)
                    exact g_vret hC hB hr hlk (by decide) (by decide) rfl hf d_Ma_compute_211
abbrev rm_Ma_moveNumbers_5 : Room := { frames := 1, cells := 0, slots := 0, locals := 15 }
def f_Ma_moveNumbers_5 (G : gT) (p1 : Int32) (p2 : Int32) : gT := (if p1 = 5 then (f_Ma_write_5 G (f_Ma_register G p2 24) (G 6 ((8 + (((G 6 ((f_Ma_register G p2 20).toNatClampNeg)) + p2.toInt16.toInt32) &&& 255)).toNatClampNeg))) else (if p1 = 6 then (f_Ma_write_5 G (8 + (((G 6 ((f_Ma_register G p2 20).toNatClampNeg)) + p2.toInt16.toInt32) &&& 255)) (G 6 ((f_Ma_register G p2 24).toNatClampNeg))) else (if p1 = 7 then (if (G 6 ((f_Ma_register G p2 24).toNatClampNeg)) = 0 then G else (g_up G 5 1 (((G 5 8) + p2.toInt16.toInt32) &&& 63))) else (g_up (g_up G 5 3 ((G 5 3) + 1)) 5 4 ((31 * (G 5 4)) + (G 6 ((f_Ma_register G p2 24).toNatClampNeg)))))))
def ok_Ma_moveNumbers_5 (G : gT) (p1 : Int32) (p2 : Int32) : Prop := (vp_in (f_Ma_register G p2 20) 264 ∧ ((p1 = 5 → (vp_in (8 + (((G 6 ((f_Ma_register G p2 20).toNatClampNeg)) + p2.toInt16.toInt32) &&& 255)) 264 ∧ (ok_Ma_write_5 G (f_Ma_register G p2 24) (G 6 ((8 + (((G 6 ((f_Ma_register G p2 20).toNatClampNeg)) + p2.toInt16.toInt32) &&& 255)).toNatClampNeg)) ∧ True))) ∧ (¬ p1 = 5 → ((p1 = 6 → (vp_in (f_Ma_register G p2 24) 264 ∧ (ok_Ma_write_5 G (8 + (((G 6 ((f_Ma_register G p2 20).toNatClampNeg)) + p2.toInt16.toInt32) &&& 255)) (G 6 ((f_Ma_register G p2 24).toNatClampNeg)) ∧ True))) ∧ (¬ p1 = 6 → ((p1 = 7 → (vp_in (f_Ma_register G p2 24) 264 ∧ True)) ∧ (¬ p1 = 7 → (vp_in (f_Ma_register G p2 24) 264 ∧ True))))))))
set_option maxHeartbeats 4000000 in
set_option maxRecDepth 100000 in
theorem c_Ma_moveNumbers_5 (l : Launch) (G : gT) (p1 : Int32) (p2 : Int32) (O : Int64) (hok : ok_Ma_moveNumbers_5 G p1 p2) : gMet l y_Ma_moveNumbers w_Ma_moveNumbers rm_Ma_moveNumbers_5 (fun ad => [.ref (ad 5), .int p1, .int p2]) G O (.inl (none)) (f_Ma_moveNumbers_5 G p1 p2) O := by
  refine g_body (by decide) (gCode_of _ _ _ _) (fun ad => by simp [lg_sl, Value.category]) ?_
  intro p e s0 s m args below meth c D cI cL ad hC hr hlk htb hB ls hl
  have hC : CallFix p m c b_Ma_moveNumbers 6 s args gtb R_Ma := hC
  have hl : lv_has ls 6 [(0, .ref (ad 5)), (1, .int p1), (2, .int p2)] := hl
  have hx := hC.1
  have hb := hC.2.1
  have hf : f_Ma_moveNumbers_5 G p1 p2 = (if p1 = 5 then (f_Ma_write_5 G (f_Ma_register G p2 24) (G 6 ((8 + (((G 6 ((f_Ma_register G p2 20).toNatClampNeg)) + p2.toInt16.toInt32) &&& 255)).toNatClampNeg))) else (if p1 = 6 then (f_Ma_write_5 G (8 + (((G 6 ((f_Ma_register G p2 20).toNatClampNeg)) + p2.toInt16.toInt32) &&& 255)) (G 6 ((f_Ma_register G p2 24).toNatClampNeg))) else (if p1 = 7 then (if (G 6 ((f_Ma_register G p2 24).toNatClampNeg)) = 0 then G else (g_up G 5 1 (((G 5 8) + p2.toInt16.toInt32) &&& 63))) else (g_up (g_up G 5 3 ((G 5 3) + 1)) 5 4 ((31 * (G 5 4)) + (G 6 ((f_Ma_register G p2 24).toNatClampNeg))))))) := rfl
  have hok : (vp_in (f_Ma_register G p2 20) 264 ∧ ((p1 = 5 → (vp_in (8 + (((G 6 ((f_Ma_register G p2 20).toNatClampNeg)) + p2.toInt16.toInt32) &&& 255)) 264 ∧ (ok_Ma_write_5 G (f_Ma_register G p2 24) (G 6 ((8 + (((G 6 ((f_Ma_register G p2 20).toNatClampNeg)) + p2.toInt16.toInt32) &&& 255)).toNatClampNeg)) ∧ True))) ∧ (¬ p1 = 5 → ((p1 = 6 → (vp_in (f_Ma_register G p2 24) 264 ∧ (ok_Ma_write_5 G (8 + (((G 6 ((f_Ma_register G p2 20).toNatClampNeg)) + p2.toInt16.toInt32) &&& 255)) (G 6 ((f_Ma_register G p2 24).toNatClampNeg)) ∧ True))) ∧ (¬ p1 = 6 → ((p1 = 7 → (vp_in (f_Ma_register G p2 24) 264 ∧ True)) ∧ (¬ p1 = 7 → (vp_in (f_Ma_register G p2 24) 264 ∧ True)))))))) := hok
  refine lv_iload_n hx hb d_Ma_moveNumbers_0 rfl (lv_at hl 2 rfl) ?_
  refine lv_bipush (v := 24) hx hb d_Ma_moveNumbers_1 (by decide) ?_
  refine g_callSi (As := [.int p2, .int 24]) (rest := []) hC hB (c_Ma_register l G p2 24 O) rfl key_Ma_register rfl sta_Ma_register ml_Ma_47 rfl hl.1 ⟨Nat.le_of_ble_eq_true rfl, Nat.le_of_ble_eq_true rfl, Nat.le_of_ble_eq_true rfl, Nat.le_of_ble_eq_true rfl⟩ d_Ma_moveNumbers_3 (fun H locs hB => ?_)
  refine lv_istore_n (lv' := [(3, .int (f_Ma_register G p2 24)), (0, .ref (ad 5)), (1, .int p1), (2, .int p2)]) hx hb d_Ma_moveNumbers_6 rfl hl (by decide) rfl (fun ls hl => ?_)
  refine lv_iload_n hx hb d_Ma_moveNumbers_7 rfl (lv_at hl 3 rfl) ?_
  refine lv_i2s (v := p2.toInt16.toInt32) hx hb d_Ma_moveNumbers_8 rfl ?_
  refine lv_istore (lv' := [(4, .int p2.toInt16.toInt32), (3, .int (f_Ma_register G p2 24)), (0, .ref (ad 5)), (1, .int p1), (2, .int p2)]) hx hb d_Ma_moveNumbers_9 hl (by decide) rfl (fun ls hl => ?_)
  refine lv_bipush (v := 8) hx hb d_Ma_moveNumbers_11 (by decide) ?_
  refine lv_aload_n hx hb d_Ma_moveNumbers_13 rfl (lv_at hl 2 rfl) ?_
  refine gr_5_0 hC hB fl_Ma_9 d_Ma_moveNumbers_14 ?_
  refine lv_iload_n hx hb d_Ma_moveNumbers_17 rfl (lv_at hl 4 rfl) ?_
  refine lv_bipush (v := 20) hx hb d_Ma_moveNumbers_18 (by decide) ?_
  refine g_callSi (As := [.int p2, .int 20]) (rest := [.ref (ad 6), .int 8]) hC hB (c_Ma_register l G p2 20 O) rfl key_Ma_register rfl sta_Ma_register ml_Ma_47 rfl hl.1 ⟨Nat.le_of_ble_eq_true rfl, Nat.le_of_ble_eq_true rfl, Nat.le_of_ble_eq_true rfl, Nat.le_of_ble_eq_true rfl⟩ d_Ma_moveNumbers_20 (fun H locs hB => ?_)
  refine ga_6 (x := (G 6 ((f_Ma_register G p2 20).toNatClampNeg))) hC hB hok.1 rfl d_Ma_moveNumbers_23 ?_
  have hok := hok.2
  refine lv_iload hx hb d_Ma_moveNumbers_24 (lv_at hl 0 rfl) ?_
  refine lv_iadd hx hb d_Ma_moveNumbers_26 ?_
  refine lv_sipush (v := 255) hx hb d_Ma_moveNumbers_27 (by decide) ?_
  refine lv_iand hx hb d_Ma_moveNumbers_30 ?_
  refine lv_iadd hx hb d_Ma_moveNumbers_31 ?_
  refine lv_istore (lv' := [(5, .int (8 + (((G 6 ((f_Ma_register G p2 20).toNatClampNeg)) + p2.toInt16.toInt32) &&& 255))), (4, .int p2.toInt16.toInt32), (3, .int (f_Ma_register G p2 24)), (0, .ref (ad 5)), (1, .int p1), (2, .int p2)]) hx hb d_Ma_moveNumbers_32 hl (by decide) rfl (fun ls hl => ?_)
  refine lv_iload_n hx hb d_Ma_moveNumbers_34 rfl (lv_at hl 4 rfl) ?_
  by_cases c2 : p1 = 5
  · have hf := hf.trans (if_pos c2)
    have hok := hok.1 c2
    refine g_switch (tgt := 60) hC d_Ma_moveNumbers_35 (fun i hi => by show i < 3; omega) (by rw [c2]; decide) ?_
    refine lv_aload_n hx hb d_Ma_moveNumbers_60 rfl (lv_at hl 3 rfl) ?_
    refine lv_iload_n hx hb d_Ma_moveNumbers_61 rfl (lv_at hl 2 rfl) ?_
    refine lv_aload_n hx hb d_Ma_moveNumbers_62 rfl (lv_at hl 3 rfl) ?_
    refine gr_5_0 hC hB fl_Ma_9 d_Ma_moveNumbers_63 ?_
    refine lv_iload hx hb d_Ma_moveNumbers_66 (lv_at hl 0 rfl) ?_
    refine ga_6 (x := (G 6 ((8 + (((G 6 ((f_Ma_register G p2 20).toNatClampNeg)) + p2.toInt16.toInt32) &&& 255)).toNatClampNeg))) hC hB hok.1 rfl d_Ma_moveNumbers_68 ?_
    have hok := hok.2
    refine g_callVv (b := ad 5) (As := [.int (f_Ma_register G p2 24), .int (G 6 ((8 + (((G 6 ((f_Ma_register G p2 20).toNatClampNeg)) + p2.toInt16.toInt32) &&& 255)).toNatClampNeg))]) (rest := []) hC hB (c_Ma_write_5 l G (f_Ma_register G p2 24) (G 6 ((8 + (((G 6 ((f_Ma_register G p2 20).toNatClampNeg)) + p2.toInt16.toInt32) &&& 255)).toNatClampNeg)) O hok.1) rfl key_Ma_write rfl ins_Ma_write sel_Ma_write ml_Ma_51 (g_rec5 hB) rfl hl.1 ⟨Nat.le_of_ble_eq_true rfl, Nat.le_of_ble_eq_true rfl, Nat.le_of_ble_eq_true rfl, Nat.le_of_ble_eq_true rfl⟩ d_Ma_moveNumbers_69 (fun H locs hB => ?_)
    have hok := hok.2
    refine lv_goto (tgt := 144) hx hb d_Ma_moveNumbers_72 (by decide) ?_
    exact g_vret hC hB hr hlk (by decide) (by decide) rfl hf d_Ma_moveNumbers_144
  · have hf := hf.trans (if_neg c2)
    have hok := hok.2 c2
    by_cases c3 : p1 = 6
    · have hf := hf.trans (if_pos c3)
      have hok := hok.1 c3
      refine g_switch (tgt := 75) hC d_Ma_moveNumbers_35 (fun i hi => by show i < 3; omega) (by rw [c3]; decide) ?_
      refine lv_aload_n hx hb d_Ma_moveNumbers_75 rfl (lv_at hl 3 rfl) ?_
      refine lv_iload hx hb d_Ma_moveNumbers_76 (lv_at hl 0 rfl) ?_
      refine lv_aload_n hx hb d_Ma_moveNumbers_78 rfl (lv_at hl 3 rfl) ?_
      refine gr_5_0 hC hB fl_Ma_9 d_Ma_moveNumbers_79 ?_
      refine lv_iload_n hx hb d_Ma_moveNumbers_82 rfl (lv_at hl 2 rfl) ?_
      refine ga_6 (x := (G 6 ((f_Ma_register G p2 24).toNatClampNeg))) hC hB hok.1 rfl d_Ma_moveNumbers_83 ?_
      have hok := hok.2
      refine g_callVv (b := ad 5) (As := [.int (8 + (((G 6 ((f_Ma_register G p2 20).toNatClampNeg)) + p2.toInt16.toInt32) &&& 255)), .int (G 6 ((f_Ma_register G p2 24).toNatClampNeg))]) (rest := []) hC hB (c_Ma_write_5 l G (8 + (((G 6 ((f_Ma_register G p2 20).toNatClampNeg)) + p2.toInt16.toInt32) &&& 255)) (G 6 ((f_Ma_register G p2 24).toNatClampNeg)) O hok.1) rfl key_Ma_write rfl ins_Ma_write sel_Ma_write ml_Ma_51 (g_rec5 hB) rfl hl.1 ⟨Nat.le_of_ble_eq_true rfl, Nat.le_of_ble_eq_true rfl, Nat.le_of_ble_eq_true rfl, Nat.le_of_ble_eq_true rfl⟩ d_Ma_moveNumbers_84 (fun H locs hB => ?_)
      have hok := hok.2
      refine lv_goto (tgt := 144) hx hb d_Ma_moveNumbers_87 (by decide) ?_
      exact g_vret hC hB hr hlk (by decide) (by decide) rfl hf d_Ma_moveNumbers_144
    · have hf := hf.trans (if_neg c3)
      have hok := hok.2 c3
      by_cases c4 : p1 = 7
      · have hf := hf.trans (if_pos c4)
        have hok := hok.1 c4
        refine g_switch (tgt := 90) hC d_Ma_moveNumbers_35 (fun i hi => by show i < 3; omega) (by rw [c4]; decide) ?_
        refine lv_aload_n hx hb d_Ma_moveNumbers_90 rfl (lv_at hl 3 rfl) ?_
        refine gr_5_0 hC hB fl_Ma_9 d_Ma_moveNumbers_91 ?_
        refine lv_iload_n hx hb d_Ma_moveNumbers_94 rfl (lv_at hl 2 rfl) ?_
        refine ga_6 (x := (G 6 ((f_Ma_register G p2 24).toNatClampNeg))) hC hB hok.1 rfl d_Ma_moveNumbers_95 ?_
        have hok := hok.2
        refine lv_if_eq (tgt := 144) hx hb d_Ma_moveNumbers_96 (by decide) (fun c1 => ?_) (fun c1 => ?_)
        · have hf := hf.trans (if_pos c1)
          exact g_vret hC hB hr hlk (by decide) (by decide) rfl hf d_Ma_moveNumbers_144
        · have hf := hf.trans (if_neg c1)
          refine lv_aload_n hx hb d_Ma_moveNumbers_99 rfl (lv_at hl 3 rfl) ?_
          refine lv_aload_n hx hb d_Ma_moveNumbers_100 rfl (lv_at hl 3 rfl) ?_
          refine gg_5_8 (x := (G 5 8)) hC hB rfl fl_Ma_61 d_Ma_moveNumbers_101 ?_
          refine lv_iload hx hb d_Ma_moveNumbers_104 (lv_at hl 1 rfl) ?_
          refine lv_iadd hx hb d_Ma_moveNumbers_106 ?_
          refine lv_bipush (v := 63) hx hb d_Ma_moveNumbers_107 (by decide) ?_
          refine lv_iand hx hb d_Ma_moveNumbers_109 ?_
          refine gp_5_1 hC hB fl_Ma_28 d_Ma_moveNumbers_110 (fun H locs hB => ?_)
          refine lv_goto (tgt := 144) hx hb d_Ma_moveNumbers_113 (by decide) ?_
          exact g_vret hC hB hr hlk (by decide) (by decide) rfl hf d_Ma_moveNumbers_144
      · have hf := hf.trans (if_neg c4)
        have hok := hok.2 c4
        refine g_switch (tgt := 116) hC d_Ma_moveNumbers_35 (fun i hi => by show i < 3; omega) ?_ ?_
        · have e0 := g_ne (k := 5) c2 (by decide)
          have e1 := g_ne (k := 6) c3 (by decide)
          have e2 := g_ne (k := 7) c4 (by decide)
          have e : (p1).toInt < 5 ∨ 7 < (p1).toInt := by omega
          generalize (p1).toInt = z at e ⊢
          rcases e with e | e
          · rw [g_swt, if_pos (by omega)]; decide
          · rw [g_swt, if_pos (by omega)]; decide
        · refine lv_aload_n hx hb d_Ma_moveNumbers_116 rfl (lv_at hl 3 rfl) ?_
          refine lv_dup hx hb d_Ma_moveNumbers_117 rfl ?_
          refine gg_5_3 (x := (G 5 3)) hC hB rfl fl_Ma_34 d_Ma_moveNumbers_118 ?_
          refine lv_iconst (v := 1) hx hb d_Ma_moveNumbers_121 (by decide) ?_
          refine lv_iadd hx hb d_Ma_moveNumbers_122 ?_
          refine gp_5_3 hC hB fl_Ma_34 d_Ma_moveNumbers_123 (fun H locs hB => ?_)
          refine lv_aload_n hx hb d_Ma_moveNumbers_126 rfl (lv_at hl 3 rfl) ?_
          refine lv_bipush (v := 31) hx hb d_Ma_moveNumbers_127 (by decide) ?_
          refine lv_aload_n hx hb d_Ma_moveNumbers_129 rfl (lv_at hl 3 rfl) ?_
          refine gg_5_4 (x := (G 5 4)) hC hB rfl fl_Ma_37 d_Ma_moveNumbers_130 ?_
          refine lv_imul hx hb d_Ma_moveNumbers_133 ?_
          refine lv_aload_n hx hb d_Ma_moveNumbers_134 rfl (lv_at hl 3 rfl) ?_
          refine gr_5_0 hC hB fl_Ma_9 d_Ma_moveNumbers_135 ?_
          refine lv_iload_n hx hb d_Ma_moveNumbers_138 rfl (lv_at hl 2 rfl) ?_
          refine ga_6 (x := (G 6 ((f_Ma_register G p2 24).toNatClampNeg))) hC hB hok.1 rfl d_Ma_moveNumbers_139 ?_
          have hok := hok.2
          refine lv_iadd hx hb d_Ma_moveNumbers_140 ?_
          refine gp_5_4 hC hB fl_Ma_37 d_Ma_moveNumbers_141 (fun H locs hB => ?_)
          exact g_vret hC hB hr hlk (by decide) (by decide) rfl hf d_Ma_moveNumbers_144
abbrev rm_Ma_advance_5 : Room := { frames := 2, cells := 0, slots := 0, locals := 32 }
def f_Ma_advance_5 (G : gT) (p3 : Int32) : Int32 × gT := (if (G 5 5) = 0 then (if (f_Ma_wouldWait_5 G p3) = 0 then (if (g_ush (G 1 ((G 5 1).toNatClampNeg)) 28) = 8 then (1, (g_up (f_Ma_write_5 (g_up (f_Ma_rememberBefore_5 G) 5 1 ((((f_Ma_rememberBefore_5 G) 5 1) + 1) &&& 63)) (f_Ma_register (g_up (f_Ma_rememberBefore_5 G) 5 1 ((((f_Ma_rememberBefore_5 G) 5 1) + 1) &&& 63)) (G 1 ((G 5 1).toNatClampNeg)) 24) ((f_Ma_rememberBefore_5 G) 2 (((f_Ma_rememberBefore_5 G) 5 2).toNatClampNeg))) 5 2 (((f_Ma_write_5 (g_up (f_Ma_rememberBefore_5 G) 5 1 ((((f_Ma_rememberBefore_5 G) 5 1) + 1) &&& 63)) (f_Ma_register (g_up (f_Ma_rememberBefore_5 G) 5 1 ((((f_Ma_rememberBefore_5 G) 5 1) + 1) &&& 63)) (G 1 ((G 5 1).toNatClampNeg)) 24) ((f_Ma_rememberBefore_5 G) 2 (((f_Ma_rememberBefore_5 G) 5 2).toNatClampNeg))) 5 2) + 1))) else (if (g_ush (G 1 ((G 5 1).toNatClampNeg)) 28) < 5 then (1, (f_Ma_compute_5 (g_up (f_Ma_rememberBefore_5 G) 5 1 ((((f_Ma_rememberBefore_5 G) 5 1) + 1) &&& 63)) (g_ush (G 1 ((G 5 1).toNatClampNeg)) 28) (G 1 ((G 5 1).toNatClampNeg)))) else (if 9 < (g_ush (G 1 ((G 5 1).toNatClampNeg)) 28) then (1, (f_Ma_compute_5 (g_up (f_Ma_rememberBefore_5 G) 5 1 ((((f_Ma_rememberBefore_5 G) 5 1) + 1) &&& 63)) (g_ush (G 1 ((G 5 1).toNatClampNeg)) 28) (G 1 ((G 5 1).toNatClampNeg)))) else (1, (f_Ma_moveNumbers_5 (g_up (f_Ma_rememberBefore_5 G) 5 1 ((((f_Ma_rememberBefore_5 G) 5 1) + 1) &&& 63)) (g_ush (G 1 ((G 5 1).toNatClampNeg)) 28) (G 1 ((G 5 1).toNatClampNeg))))))) else (0, G)) else (0, G))
def ok_Ma_advance_5 (G : gT) (p3 : Int32) : Prop := (((G 5 5) = 0 → (ok_Ma_wouldWait_5 G p3 ∧ (((f_Ma_wouldWait_5 G p3) = 0 → (vp_in (G 5 1) 64 ∧ (((g_ush (G 1 ((G 5 1).toNatClampNeg)) 28) = 8 → (vp_in ((f_Ma_rememberBefore_5 G) 5 2) 200 ∧ (ok_Ma_write_5 (g_up (f_Ma_rememberBefore_5 G) 5 1 ((((f_Ma_rememberBefore_5 G) 5 1) + 1) &&& 63)) (f_Ma_register (g_up (f_Ma_rememberBefore_5 G) 5 1 ((((f_Ma_rememberBefore_5 G) 5 1) + 1) &&& 63)) (G 1 ((G 5 1).toNatClampNeg)) 24) ((f_Ma_rememberBefore_5 G) 2 (((f_Ma_rememberBefore_5 G) 5 2).toNatClampNeg)) ∧ True))) ∧ (¬ (g_ush (G 1 ((G 5 1).toNatClampNeg)) 28) = 8 → (((g_ush (G 1 ((G 5 1).toNatClampNeg)) 28) < 5 → (ok_Ma_compute_5 (g_up (f_Ma_rememberBefore_5 G) 5 1 ((((f_Ma_rememberBefore_5 G) 5 1) + 1) &&& 63)) (g_ush (G 1 ((G 5 1).toNatClampNeg)) 28) (G 1 ((G 5 1).toNatClampNeg)) ∧ True)) ∧ (¬ (g_ush (G 1 ((G 5 1).toNatClampNeg)) 28) < 5 → ((9 < (g_ush (G 1 ((G 5 1).toNatClampNeg)) 28) → (ok_Ma_compute_5 (g_up (f_Ma_rememberBefore_5 G) 5 1 ((((f_Ma_rememberBefore_5 G) 5 1) + 1) &&& 63)) (g_ush (G 1 ((G 5 1).toNatClampNeg)) 28) (G 1 ((G 5 1).toNatClampNeg)) ∧ True)) ∧ (¬ 9 < (g_ush (G 1 ((G 5 1).toNatClampNeg)) 28) → (ok_Ma_moveNumbers_5 (g_up (f_Ma_rememberBefore_5 G) 5 1 ((((f_Ma_rememberBefore_5 G) 5 1) + 1) &&& 63)) (g_ush (G 1 ((G 5 1).toNatClampNeg)) 28) (G 1 ((G 5 1).toNatClampNeg)) ∧ True))))))))) ∧ (¬ (f_Ma_wouldWait_5 G p3) = 0 → True)))) ∧ (¬ (G 5 5) = 0 → True))
set_option maxHeartbeats 4000000 in
set_option maxRecDepth 100000 in
theorem c_Ma_advance_5 (l : Launch) (G : gT) (p3 : Int32) (O : Int64) (hok : ok_Ma_advance_5 G p3) : gMet l y_Ma_advance w_Ma_advance rm_Ma_advance_5 (fun ad => [.ref (ad 5), .ref (ad 1), .ref (ad 2), .int p3]) G O (.inl (some (.int (f_Ma_advance_5 G p3).1))) ((f_Ma_advance_5 G p3).2) O := by
  refine g_body (by decide) (gCode_of _ _ _ _) (fun ad => by simp [lg_sl, Value.category]) ?_
  intro p e s0 s m args below meth c D cI cL ad hC hr hlk htb hB ls hl
  have hC : CallFix p m c b_Ma_advance 6 s args gtb R_Ma := hC
  have hl : lv_has ls 6 [(0, .ref (ad 5)), (1, .ref (ad 1)), (2, .ref (ad 2)), (3, .int p3)] := hl
  have hx := hC.1
  have hb := hC.2.1
  have hf : f_Ma_advance_5 G p3 = (if (G 5 5) = 0 then (if (f_Ma_wouldWait_5 G p3) = 0 then (if (g_ush (G 1 ((G 5 1).toNatClampNeg)) 28) = 8 then (1, (g_up (f_Ma_write_5 (g_up (f_Ma_rememberBefore_5 G) 5 1 ((((f_Ma_rememberBefore_5 G) 5 1) + 1) &&& 63)) (f_Ma_register (g_up (f_Ma_rememberBefore_5 G) 5 1 ((((f_Ma_rememberBefore_5 G) 5 1) + 1) &&& 63)) (G 1 ((G 5 1).toNatClampNeg)) 24) ((f_Ma_rememberBefore_5 G) 2 (((f_Ma_rememberBefore_5 G) 5 2).toNatClampNeg))) 5 2 (((f_Ma_write_5 (g_up (f_Ma_rememberBefore_5 G) 5 1 ((((f_Ma_rememberBefore_5 G) 5 1) + 1) &&& 63)) (f_Ma_register (g_up (f_Ma_rememberBefore_5 G) 5 1 ((((f_Ma_rememberBefore_5 G) 5 1) + 1) &&& 63)) (G 1 ((G 5 1).toNatClampNeg)) 24) ((f_Ma_rememberBefore_5 G) 2 (((f_Ma_rememberBefore_5 G) 5 2).toNatClampNeg))) 5 2) + 1))) else (if (g_ush (G 1 ((G 5 1).toNatClampNeg)) 28) < 5 then (1, (f_Ma_compute_5 (g_up (f_Ma_rememberBefore_5 G) 5 1 ((((f_Ma_rememberBefore_5 G) 5 1) + 1) &&& 63)) (g_ush (G 1 ((G 5 1).toNatClampNeg)) 28) (G 1 ((G 5 1).toNatClampNeg)))) else (if 9 < (g_ush (G 1 ((G 5 1).toNatClampNeg)) 28) then (1, (f_Ma_compute_5 (g_up (f_Ma_rememberBefore_5 G) 5 1 ((((f_Ma_rememberBefore_5 G) 5 1) + 1) &&& 63)) (g_ush (G 1 ((G 5 1).toNatClampNeg)) 28) (G 1 ((G 5 1).toNatClampNeg)))) else (1, (f_Ma_moveNumbers_5 (g_up (f_Ma_rememberBefore_5 G) 5 1 ((((f_Ma_rememberBefore_5 G) 5 1) + 1) &&& 63)) (g_ush (G 1 ((G 5 1).toNatClampNeg)) 28) (G 1 ((G 5 1).toNatClampNeg))))))) else (0, G)) else (0, G)) := rfl
  have hok : (((G 5 5) = 0 → (ok_Ma_wouldWait_5 G p3 ∧ (((f_Ma_wouldWait_5 G p3) = 0 → (vp_in (G 5 1) 64 ∧ (((g_ush (G 1 ((G 5 1).toNatClampNeg)) 28) = 8 → (vp_in ((f_Ma_rememberBefore_5 G) 5 2) 200 ∧ (ok_Ma_write_5 (g_up (f_Ma_rememberBefore_5 G) 5 1 ((((f_Ma_rememberBefore_5 G) 5 1) + 1) &&& 63)) (f_Ma_register (g_up (f_Ma_rememberBefore_5 G) 5 1 ((((f_Ma_rememberBefore_5 G) 5 1) + 1) &&& 63)) (G 1 ((G 5 1).toNatClampNeg)) 24) ((f_Ma_rememberBefore_5 G) 2 (((f_Ma_rememberBefore_5 G) 5 2).toNatClampNeg)) ∧ True))) ∧ (¬ (g_ush (G 1 ((G 5 1).toNatClampNeg)) 28) = 8 → (((g_ush (G 1 ((G 5 1).toNatClampNeg)) 28) < 5 → (ok_Ma_compute_5 (g_up (f_Ma_rememberBefore_5 G) 5 1 ((((f_Ma_rememberBefore_5 G) 5 1) + 1) &&& 63)) (g_ush (G 1 ((G 5 1).toNatClampNeg)) 28) (G 1 ((G 5 1).toNatClampNeg)) ∧ True)) ∧ (¬ (g_ush (G 1 ((G 5 1).toNatClampNeg)) 28) < 5 → ((9 < (g_ush (G 1 ((G 5 1).toNatClampNeg)) 28) → (ok_Ma_compute_5 (g_up (f_Ma_rememberBefore_5 G) 5 1 ((((f_Ma_rememberBefore_5 G) 5 1) + 1) &&& 63)) (g_ush (G 1 ((G 5 1).toNatClampNeg)) 28) (G 1 ((G 5 1).toNatClampNeg)) ∧ True)) ∧ (¬ 9 < (g_ush (G 1 ((G 5 1).toNatClampNeg)) 28) → (ok_Ma_moveNumbers_5 (g_up (f_Ma_rememberBefore_5 G) 5 1 ((((f_Ma_rememberBefore_5 G) 5 1) + 1) &&& 63)) (g_ush (G 1 ((G 5 1).toNatClampNeg)) 28) (G 1 ((G 5 1).toNatClampNeg)) ∧ True))))))))) ∧ (¬ (f_Ma_wouldWait_5 G p3) = 0 → True)))) ∧ (¬ (G 5 5) = 0 → True)) := hok
  refine lv_aload_n hx hb d_Ma_advance_0 rfl (lv_at hl 0 rfl) ?_
  refine gg_5_5 (x := (G 5 5)) hC hB rfl fl_Ma_15 d_Ma_advance_1 ?_
  refine lv_if_ne (tgt := 16) hx hb d_Ma_advance_4 (by decide) (fun c1 => ?_) (fun c1 => ?_)
  · have hf := hf.trans (if_neg c1)
    have hok := hok.2 c1
    refine lv_iconst (v := 0) hx hb d_Ma_advance_16 (by decide) ?_
    exact g_zret hC hB hr hlk (by decide) (by decide) (by decide) (by rw [hf]) (by rw [hf]) d_Ma_advance_17
  · have hf := hf.trans (if_pos c1)
    have hok := hok.1 c1
    refine lv_aload_n hx hb d_Ma_advance_7 rfl (lv_at hl 0 rfl) ?_
    refine lv_aload_n hx hb d_Ma_advance_8 rfl (lv_at hl 1 rfl) ?_
    refine lv_iload_n hx hb d_Ma_advance_9 rfl (lv_at hl 3 rfl) ?_
    refine g_callVi (b := ad 5) (As := [.ref (ad 1), .int p3]) (rest := []) hC hB (c_Ma_wouldWait_5 l G p3 O hok.1) rfl key_Ma_wouldWait rfl ins_Ma_wouldWait sel_Ma_wouldWait ml_Ma_40 (g_rec5 hB) rfl hl.1 ⟨Nat.le_of_ble_eq_true rfl, Nat.le_of_ble_eq_true rfl, Nat.le_of_ble_eq_true rfl, Nat.le_of_ble_eq_true rfl⟩ d_Ma_advance_10 (fun H locs hB => ?_)
    have hok := hok.2
    refine lv_if_eq (tgt := 18) hx hb d_Ma_advance_13 (by decide) (fun c2 => ?_) (fun c2 => ?_)
    · have hf := hf.trans (if_pos c2)
      have hok := hok.1 c2
      refine lv_aload_n hx hb d_Ma_advance_18 rfl (lv_at hl 1 rfl) ?_
      refine lv_aload_n hx hb d_Ma_advance_19 rfl (lv_at hl 0 rfl) ?_
      refine gg_5_1 (x := (G 5 1)) hC hB rfl fl_Ma_28 d_Ma_advance_20 ?_
      refine ga_1 (x := (G 1 ((G 5 1).toNatClampNeg))) hC hB hok.1 rfl d_Ma_advance_23 ?_
      have hok := hok.2
      refine lv_istore (lv' := [(4, .int (G 1 ((G 5 1).toNatClampNeg))), (0, .ref (ad 5)), (1, .ref (ad 1)), (2, .ref (ad 2)), (3, .int p3)]) hx hb d_Ma_advance_24 hl (by decide) rfl (fun ls hl => ?_)
      refine lv_aload_n hx hb d_Ma_advance_26 rfl (lv_at hl 1 rfl) ?_
      refine g_callVv (b := ad 5) (As := []) (rest := []) hC hB (c_Ma_rememberBefore_5 l G O) rfl key_Ma_rememberBefore rfl ins_Ma_rememberBefore sel_Ma_rememberBefore ml_Ma_44 (g_rec5 hB) rfl hl.1 ⟨Nat.le_of_ble_eq_true rfl, Nat.le_of_ble_eq_true rfl, Nat.le_of_ble_eq_true rfl, Nat.le_of_ble_eq_true rfl⟩ d_Ma_advance_27 (fun H locs hB => ?_)
      refine lv_aload_n hx hb d_Ma_advance_30 rfl (lv_at hl 1 rfl) ?_
      refine lv_aload_n hx hb d_Ma_advance_31 rfl (lv_at hl 1 rfl) ?_
      refine gg_5_1 (x := ((f_Ma_rememberBefore_5 G) 5 1)) hC hB rfl fl_Ma_28 d_Ma_advance_32 ?_
      refine lv_iconst (v := 1) hx hb d_Ma_advance_35 (by decide) ?_
      refine lv_iadd hx hb d_Ma_advance_36 ?_
      refine lv_bipush (v := 63) hx hb d_Ma_advance_37 (by decide) ?_
      refine lv_iand hx hb d_Ma_advance_39 ?_
      refine gp_5_1 hC hB fl_Ma_28 d_Ma_advance_40 (fun H locs hB => ?_)
      refine lv_iload hx hb d_Ma_advance_43 (lv_at hl 0 rfl) ?_
      refine lv_bipush (v := 28) hx hb d_Ma_advance_45 (by decide) ?_
      refine lv_iushr (v := g_ush (G 1 ((G 5 1).toNatClampNeg)) 28) hx hb d_Ma_advance_47 rfl ?_
      refine lv_istore (lv' := [(5, .int (g_ush (G 1 ((G 5 1).toNatClampNeg)) 28)), (4, .int (G 1 ((G 5 1).toNatClampNeg))), (0, .ref (ad 5)), (1, .ref (ad 1)), (2, .ref (ad 2)), (3, .int p3)]) hx hb d_Ma_advance_48 hl (by decide) rfl (fun ls hl => ?_)
      refine lv_iload hx hb d_Ma_advance_50 (lv_at hl 0 rfl) ?_
      refine lv_bipush (v := 8) hx hb d_Ma_advance_52 (by decide) ?_
      refine lv_icmp_ne (tgt := 87) hx hb d_Ma_advance_54 (by decide) (fun c3 => ?_) (fun c3 => ?_)
      · have hf := hf.trans (if_neg c3)
        have hok := hok.2 c3
        refine lv_iload hx hb d_Ma_advance_87 (lv_at hl 0 rfl) ?_
        refine lv_iconst (v := 5) hx hb d_Ma_advance_89 (by decide) ?_
        refine lv_icmp_lt (tgt := 111) hx hb d_Ma_advance_90 (by decide) (fun c4 => ?_) (fun c4 => ?_)
        · have hf := hf.trans (if_pos c4)
          have hok := hok.1 c4
          refine lv_aload_n hx hb d_Ma_advance_111 rfl (lv_at hl 2 rfl) ?_
          refine lv_iload hx hb d_Ma_advance_112 (lv_at hl 0 rfl) ?_
          refine lv_iload hx hb d_Ma_advance_114 (lv_at hl 1 rfl) ?_
          refine g_callVv (b := ad 5) (As := [.int (g_ush (G 1 ((G 5 1).toNatClampNeg)) 28), .int (G 1 ((G 5 1).toNatClampNeg))]) (rest := []) hC hB (c_Ma_compute_5 l (g_up (f_Ma_rememberBefore_5 G) 5 1 ((((f_Ma_rememberBefore_5 G) 5 1) + 1) &&& 63)) (g_ush (G 1 ((G 5 1).toNatClampNeg)) 28) (G 1 ((G 5 1).toNatClampNeg)) O hok.1) rfl key_Ma_compute rfl ins_Ma_compute sel_Ma_compute ml_Ma_58 (g_rec5 hB) rfl hl.1 ⟨Nat.le_of_ble_eq_true rfl, Nat.le_of_ble_eq_true rfl, Nat.le_of_ble_eq_true rfl, Nat.le_of_ble_eq_true rfl⟩ d_Ma_advance_116 (fun H locs hB => ?_)
          have hok := hok.2
          refine lv_iconst (v := 1) hx hb d_Ma_advance_119 (by decide) ?_
          exact g_zret hC hB hr hlk (by decide) (by decide) (by decide) (by rw [hf]) (by rw [hf]) d_Ma_advance_120
        · have hf := hf.trans (if_neg c4)
          have hok := hok.2 c4
          refine lv_iload hx hb d_Ma_advance_93 (lv_at hl 0 rfl) ?_
          refine lv_bipush (v := 9) hx hb d_Ma_advance_95 (by decide) ?_
          refine lv_icmp_gt (tgt := 111) hx hb d_Ma_advance_97 (by decide) (fun c5 => ?_) (fun c5 => ?_)
          · have hf := hf.trans (if_pos c5)
            have hok := hok.1 c5
            refine lv_aload_n hx hb d_Ma_advance_111 rfl (lv_at hl 2 rfl) ?_
            refine lv_iload hx hb d_Ma_advance_112 (lv_at hl 0 rfl) ?_
            refine lv_iload hx hb d_Ma_advance_114 (lv_at hl 1 rfl) ?_
            refine g_callVv (b := ad 5) (As := [.int (g_ush (G 1 ((G 5 1).toNatClampNeg)) 28), .int (G 1 ((G 5 1).toNatClampNeg))]) (rest := []) hC hB (c_Ma_compute_5 l (g_up (f_Ma_rememberBefore_5 G) 5 1 ((((f_Ma_rememberBefore_5 G) 5 1) + 1) &&& 63)) (g_ush (G 1 ((G 5 1).toNatClampNeg)) 28) (G 1 ((G 5 1).toNatClampNeg)) O hok.1) rfl key_Ma_compute rfl ins_Ma_compute sel_Ma_compute ml_Ma_58 (g_rec5 hB) rfl hl.1 ⟨Nat.le_of_ble_eq_true rfl, Nat.le_of_ble_eq_true rfl, Nat.le_of_ble_eq_true rfl, Nat.le_of_ble_eq_true rfl⟩ d_Ma_advance_116 (fun H locs hB => ?_)
            have hok := hok.2
            refine lv_iconst (v := 1) hx hb d_Ma_advance_119 (by decide) ?_
            exact g_zret hC hB hr hlk (by decide) (by decide) (by decide) (by rw [hf]) (by rw [hf]) d_Ma_advance_120
          · have hf := hf.trans (if_neg c5)
            have hok := hok.2 c5
            refine lv_aload_n hx hb d_Ma_advance_100 rfl (lv_at hl 2 rfl) ?_
            refine lv_iload hx hb d_Ma_advance_101 (lv_at hl 0 rfl) ?_
            refine lv_iload hx hb d_Ma_advance_103 (lv_at hl 1 rfl) ?_
            refine g_callVv (b := ad 5) (As := [.int (g_ush (G 1 ((G 5 1).toNatClampNeg)) 28), .int (G 1 ((G 5 1).toNatClampNeg))]) (rest := []) hC hB (c_Ma_moveNumbers_5 l (g_up (f_Ma_rememberBefore_5 G) 5 1 ((((f_Ma_rememberBefore_5 G) 5 1) + 1) &&& 63)) (g_ush (G 1 ((G 5 1).toNatClampNeg)) 28) (G 1 ((G 5 1).toNatClampNeg)) O hok.1) rfl key_Ma_moveNumbers rfl ins_Ma_moveNumbers sel_Ma_moveNumbers ml_Ma_55 (g_rec5 hB) rfl hl.1 ⟨Nat.le_of_ble_eq_true rfl, Nat.le_of_ble_eq_true rfl, Nat.le_of_ble_eq_true rfl, Nat.le_of_ble_eq_true rfl⟩ d_Ma_advance_105 (fun H locs hB => ?_)
            have hok := hok.2
            refine lv_goto (tgt := 119) hx hb d_Ma_advance_108 (by decide) ?_
            refine lv_iconst (v := 1) hx hb d_Ma_advance_119 (by decide) ?_
            exact g_zret hC hB hr hlk (by decide) (by decide) (by decide) (by rw [hf]) (by rw [hf]) d_Ma_advance_120
      · have hf := hf.trans (if_pos c3)
        have hok := hok.1 c3
        refine lv_aload_n hx hb d_Ma_advance_57 rfl (lv_at hl 2 rfl) ?_
        refine lv_iload hx hb d_Ma_advance_58 (lv_at hl 1 rfl) ?_
        refine lv_bipush (v := 24) hx hb d_Ma_advance_60 (by decide) ?_
        refine g_callSi (As := [.int (G 1 ((G 5 1).toNatClampNeg)), .int 24]) (rest := [.ref (ad 5)]) hC hB (c_Ma_register l (g_up (f_Ma_rememberBefore_5 G) 5 1 ((((f_Ma_rememberBefore_5 G) 5 1) + 1) &&& 63)) (G 1 ((G 5 1).toNatClampNeg)) 24 O) rfl key_Ma_register rfl sta_Ma_register ml_Ma_47 rfl hl.1 ⟨Nat.le_of_ble_eq_true rfl, Nat.le_of_ble_eq_true rfl, Nat.le_of_ble_eq_true rfl, Nat.le_of_ble_eq_true rfl⟩ d_Ma_advance_62 (fun H locs hB => ?_)
        refine lv_aload_n hx hb d_Ma_advance_65 rfl (lv_at hl 4 rfl) ?_
        refine lv_aload_n hx hb d_Ma_advance_66 rfl (lv_at hl 2 rfl) ?_
        refine gg_5_2 (x := ((f_Ma_rememberBefore_5 G) 5 2)) hC hB rfl fl_Ma_31 d_Ma_advance_67 ?_
        refine ga_2 (x := ((f_Ma_rememberBefore_5 G) 2 (((f_Ma_rememberBefore_5 G) 5 2).toNatClampNeg))) hC hB hok.1 rfl d_Ma_advance_70 ?_
        have hok := hok.2
        refine g_callVv (b := ad 5) (As := [.int (f_Ma_register (g_up (f_Ma_rememberBefore_5 G) 5 1 ((((f_Ma_rememberBefore_5 G) 5 1) + 1) &&& 63)) (G 1 ((G 5 1).toNatClampNeg)) 24), .int ((f_Ma_rememberBefore_5 G) 2 (((f_Ma_rememberBefore_5 G) 5 2).toNatClampNeg))]) (rest := []) hC hB (c_Ma_write_5 l (g_up (f_Ma_rememberBefore_5 G) 5 1 ((((f_Ma_rememberBefore_5 G) 5 1) + 1) &&& 63)) (f_Ma_register (g_up (f_Ma_rememberBefore_5 G) 5 1 ((((f_Ma_rememberBefore_5 G) 5 1) + 1) &&& 63)) (G 1 ((G 5 1).toNatClampNeg)) 24) ((f_Ma_rememberBefore_5 G) 2 (((f_Ma_rememberBefore_5 G) 5 2).toNatClampNeg)) O hok.1) rfl key_Ma_write rfl ins_Ma_write sel_Ma_write ml_Ma_51 (g_rec5 hB) rfl hl.1 ⟨Nat.le_of_ble_eq_true rfl, Nat.le_of_ble_eq_true rfl, Nat.le_of_ble_eq_true rfl, Nat.le_of_ble_eq_true rfl⟩ d_Ma_advance_71 (fun H locs hB => ?_)
        have hok := hok.2
        refine lv_aload_n hx hb d_Ma_advance_74 rfl (lv_at hl 2 rfl) ?_
        refine lv_dup hx hb d_Ma_advance_75 rfl ?_
        refine gg_5_2 (x := ((f_Ma_write_5 (g_up (f_Ma_rememberBefore_5 G) 5 1 ((((f_Ma_rememberBefore_5 G) 5 1) + 1) &&& 63)) (f_Ma_register (g_up (f_Ma_rememberBefore_5 G) 5 1 ((((f_Ma_rememberBefore_5 G) 5 1) + 1) &&& 63)) (G 1 ((G 5 1).toNatClampNeg)) 24) ((f_Ma_rememberBefore_5 G) 2 (((f_Ma_rememberBefore_5 G) 5 2).toNatClampNeg))) 5 2)) hC hB rfl fl_Ma_31 d_Ma_advance_76 ?_
        refine lv_iconst (v := 1) hx hb d_Ma_advance_79 (by decide) ?_
        refine lv_iadd hx hb d_Ma_advance_80 ?_
        refine gp_5_2 hC hB fl_Ma_31 d_Ma_advance_81 (fun H locs hB => ?_)
        refine lv_goto (tgt := 119) hx hb d_Ma_advance_84 (by decide) ?_
        refine lv_iconst (v := 1) hx hb d_Ma_advance_119 (by decide) ?_
        exact g_zret hC hB hr hlk (by decide) (by decide) (by decide) (by rw [hf]) (by rw [hf]) d_Ma_advance_120
    · have hf := hf.trans (if_neg c2)
      have hok := hok.2 c2
      refine lv_iconst (v := 0) hx hb d_Ma_advance_16 (by decide) ?_
      exact g_zret hC hB hr hlk (by decide) (by decide) (by decide) (by rw [hf]) (by rw [hf]) d_Ma_advance_17
abbrev rm_Ma_rest_5 : Room := { frames := 0, cells := 0, slots := 0, locals := 0 }
def f_Ma_rest_5 (G : gT) (p1 : Int32) : Int32 := (if p1 = 264 then (G 5 1) else (if p1 = 265 then (G 5 2) else (if p1 = 266 then (G 5 3) else (if p1 = 267 then (G 5 4) else (G 5 5)))))
set_option maxHeartbeats 4000000 in
set_option maxRecDepth 100000 in
theorem c_Ma_rest_5 (l : Launch) (G : gT) (p1 : Int32) (O : Int64) : gMet l y_Ma_rest w_Ma_rest rm_Ma_rest_5 (fun ad => [.ref (ad 5), .int p1]) G O (.inl (some (.int (f_Ma_rest_5 G p1)))) G O := by
  refine g_body (by decide) (gCode_of _ _ _ _) (fun ad => by simp [lg_sl, Value.category]) ?_
  intro p e s0 s m args below meth c D cI cL ad hC hr hlk htb hB ls hl
  have hC : CallFix p m c b_Ma_rest 2 s args gtb R_Ma := hC
  have hl : lv_has ls 2 [(0, .ref (ad 5)), (1, .int p1)] := hl
  have hx := hC.1
  have hb := hC.2.1
  have hf : f_Ma_rest_5 G p1 = (if p1 = 264 then (G 5 1) else (if p1 = 265 then (G 5 2) else (if p1 = 266 then (G 5 3) else (if p1 = 267 then (G 5 4) else (G 5 5))))) := rfl
  refine lv_iload_n hx hb d_Ma_rest_0 rfl (lv_at hl 1 rfl) ?_
  by_cases c1 : p1 = 264
  · have hf := hf.trans (if_pos c1)
    refine g_switch (tgt := 32) hC d_Ma_rest_1 (fun i hi => by show i < 4; omega) (by rw [c1]; decide) ?_
    refine lv_aload_n hx hb d_Ma_rest_32 rfl (lv_at hl 0 rfl) ?_
    refine gg_5_1 (x := (G 5 1)) hC hB rfl fl_Ma_28 d_Ma_rest_33 ?_
    exact g_iret hC hB hr hlk (by decide) (by decide) (by rw [hf]) rfl d_Ma_rest_36
  · have hf := hf.trans (if_neg c1)
    by_cases c2 : p1 = 265
    · have hf := hf.trans (if_pos c2)
      refine g_switch (tgt := 37) hC d_Ma_rest_1 (fun i hi => by show i < 4; omega) (by rw [c2]; decide) ?_
      refine lv_aload_n hx hb d_Ma_rest_37 rfl (lv_at hl 0 rfl) ?_
      refine gg_5_2 (x := (G 5 2)) hC hB rfl fl_Ma_31 d_Ma_rest_38 ?_
      exact g_iret hC hB hr hlk (by decide) (by decide) (by rw [hf]) rfl d_Ma_rest_41
    · have hf := hf.trans (if_neg c2)
      by_cases c3 : p1 = 266
      · have hf := hf.trans (if_pos c3)
        refine g_switch (tgt := 42) hC d_Ma_rest_1 (fun i hi => by show i < 4; omega) (by rw [c3]; decide) ?_
        refine lv_aload_n hx hb d_Ma_rest_42 rfl (lv_at hl 0 rfl) ?_
        refine gg_5_3 (x := (G 5 3)) hC hB rfl fl_Ma_34 d_Ma_rest_43 ?_
        exact g_iret hC hB hr hlk (by decide) (by decide) (by rw [hf]) rfl d_Ma_rest_46
      · have hf := hf.trans (if_neg c3)
        by_cases c4 : p1 = 267
        · have hf := hf.trans (if_pos c4)
          refine g_switch (tgt := 47) hC d_Ma_rest_1 (fun i hi => by show i < 4; omega) (by rw [c4]; decide) ?_
          refine lv_aload_n hx hb d_Ma_rest_47 rfl (lv_at hl 0 rfl) ?_
          refine gg_5_4 (x := (G 5 4)) hC hB rfl fl_Ma_37 d_Ma_rest_48 ?_
          exact g_iret hC hB hr hlk (by decide) (by decide) (by rw [hf]) rfl d_Ma_rest_51
        · have hf := hf.trans (if_neg c4)
          refine g_switch (tgt := 52) hC d_Ma_rest_1 (fun i hi => by show i < 4; omega) ?_ ?_
          · have e0 := g_ne (k := 264) c1 (by decide)
            have e1 := g_ne (k := 265) c2 (by decide)
            have e2 := g_ne (k := 266) c3 (by decide)
            have e3 := g_ne (k := 267) c4 (by decide)
            have e : (p1).toInt < 264 ∨ 267 < (p1).toInt := by omega
            generalize (p1).toInt = z at e ⊢
            rcases e with e | e
            · rw [g_swt, if_pos (by omega)]; decide
            · rw [g_swt, if_pos (by omega)]; decide
          · refine lv_aload_n hx hb d_Ma_rest_52 rfl (lv_at hl 0 rfl) ?_
            refine gg_5_5 (x := (G 5 5)) hC hB rfl fl_Ma_15 d_Ma_rest_53 ?_
            exact g_iret hC hB hr hlk (by decide) (by decide) (by rw [hf]) rfl d_Ma_rest_56
abbrev rm_Ma_changedNumber_5 : Room := { frames := 0, cells := 0, slots := 0, locals := 0 }
def f_Ma_changedNumber_5 (G : gT) : Int32 := (if (G 5 6) = (-1) then 0 else (if (G 6 ((G 5 6).toNatClampNeg)) = (G 5 7) then 0 else 1))
def ok_Ma_changedNumber_5 (G : gT) : Prop := (((G 5 6) = (-1) → True) ∧ (¬ (G 5 6) = (-1) → (vp_in (G 5 6) 264 ∧ True)))
set_option maxHeartbeats 4000000 in
set_option maxRecDepth 100000 in
theorem c_Ma_changedNumber_5 (l : Launch) (G : gT) (O : Int64) (hok : ok_Ma_changedNumber_5 G) : gMet l y_Ma_changedNumber w_Ma_changedNumber rm_Ma_changedNumber_5 (fun ad => [.ref (ad 5)]) G O (.inl (some (.int (f_Ma_changedNumber_5 G)))) G O := by
  refine g_body (by decide) (gCode_of _ _ _ _) (fun ad => by simp [lg_sl, Value.category]) ?_
  intro p e s0 s m args below meth c D cI cL ad hC hr hlk htb hB ls hl
  have hC : CallFix p m c b_Ma_changedNumber 1 s args gtb R_Ma := hC
  have hl : lv_has ls 1 [(0, .ref (ad 5))] := hl
  have hx := hC.1
  have hb := hC.2.1
  have hf : f_Ma_changedNumber_5 G = (if (G 5 6) = (-1) then 0 else (if (G 6 ((G 5 6).toNatClampNeg)) = (G 5 7) then 0 else 1)) := rfl
  have hok : (((G 5 6) = (-1) → True) ∧ (¬ (G 5 6) = (-1) → (vp_in (G 5 6) 264 ∧ True))) := hok
  refine lv_aload_n hx hb d_Ma_changedNumber_0 rfl (lv_at hl 0 rfl) ?_
  refine gg_5_6 (x := (G 5 6)) hC hB rfl fl_Ma_19 d_Ma_changedNumber_1 ?_
  refine lv_iconst (v := (-1)) hx hb d_Ma_changedNumber_4 (by decide) ?_
  refine lv_icmp_eq (tgt := 28) hx hb d_Ma_changedNumber_5 (by decide) (fun c1 => ?_) (fun c1 => ?_)
  · have hf := hf.trans (if_pos c1)
    have hok := hok.1 c1
    refine lv_iconst (v := 0) hx hb d_Ma_changedNumber_28 (by decide) ?_
    exact g_zret hC hB hr hlk (by decide) (by decide) (by decide) (by rw [hf]) rfl d_Ma_changedNumber_29
  · have hf := hf.trans (if_neg c1)
    have hok := hok.2 c1
    refine lv_aload_n hx hb d_Ma_changedNumber_8 rfl (lv_at hl 0 rfl) ?_
    refine gr_5_0 hC hB fl_Ma_9 d_Ma_changedNumber_9 ?_
    refine lv_aload_n hx hb d_Ma_changedNumber_12 rfl (lv_at hl 0 rfl) ?_
    refine gg_5_6 (x := (G 5 6)) hC hB rfl fl_Ma_19 d_Ma_changedNumber_13 ?_
    refine ga_6 (x := (G 6 ((G 5 6).toNatClampNeg))) hC hB hok.1 rfl d_Ma_changedNumber_16 ?_
    have hok := hok.2
    refine lv_aload_n hx hb d_Ma_changedNumber_17 rfl (lv_at hl 0 rfl) ?_
    refine gg_5_7 (x := (G 5 7)) hC hB rfl fl_Ma_77 d_Ma_changedNumber_18 ?_
    refine lv_icmp_eq (tgt := 28) hx hb d_Ma_changedNumber_21 (by decide) (fun c2 => ?_) (fun c2 => ?_)
    · have hf := hf.trans (if_pos c2)
      refine lv_iconst (v := 0) hx hb d_Ma_changedNumber_28 (by decide) ?_
      exact g_zret hC hB hr hlk (by decide) (by decide) (by decide) (by rw [hf]) rfl d_Ma_changedNumber_29
    · have hf := hf.trans (if_neg c2)
      refine lv_iconst (v := 1) hx hb d_Ma_changedNumber_24 (by decide) ?_
      refine lv_goto (tgt := 29) hx hb d_Ma_changedNumber_25 (by decide) ?_
      exact g_zret hC hB hr hlk (by decide) (by decide) (by decide) (by rw [hf]) rfl d_Ma_changedNumber_29
abbrev rm_Ma_changedNothingBut_5 : Room := { frames := 1, cells := 0, slots := 0, locals := 12 }
def f_Ma_changedNothingBut_5 (G : gT) (p1 : Int32) : Int32 := (if (f_Ma_changedNumber_5 G) = 0 then 1 else (if (G 5 6) = p1 then 1 else 0))
def ok_Ma_changedNothingBut_5 (G : gT) (p1 : Int32) : Prop := (ok_Ma_changedNumber_5 G ∧ True)
set_option maxHeartbeats 4000000 in
set_option maxRecDepth 100000 in
theorem c_Ma_changedNothingBut_5 (l : Launch) (G : gT) (p1 : Int32) (O : Int64) (hok : ok_Ma_changedNothingBut_5 G p1) : gMet l y_Ma_changedNothingBut w_Ma_changedNothingBut rm_Ma_changedNothingBut_5 (fun ad => [.ref (ad 5), .int p1]) G O (.inl (some (.int (f_Ma_changedNothingBut_5 G p1)))) G O := by
  refine g_body (by decide) (gCode_of _ _ _ _) (fun ad => by simp [lg_sl, Value.category]) ?_
  intro p e s0 s m args below meth c D cI cL ad hC hr hlk htb hB ls hl
  have hC : CallFix p m c b_Ma_changedNothingBut 2 s args gtb R_Ma := hC
  have hl : lv_has ls 2 [(0, .ref (ad 5)), (1, .int p1)] := hl
  have hx := hC.1
  have hb := hC.2.1
  have hf : f_Ma_changedNothingBut_5 G p1 = (if (f_Ma_changedNumber_5 G) = 0 then 1 else (if (G 5 6) = p1 then 1 else 0)) := rfl
  have hok : (ok_Ma_changedNumber_5 G ∧ True) := hok
  refine lv_aload_n hx hb d_Ma_changedNothingBut_0 rfl (lv_at hl 0 rfl) ?_
  refine g_callVi (b := ad 5) (As := []) (rest := []) hC hB (c_Ma_changedNumber_5 l G O hok.1) rfl key_Ma_changedNumber rfl ins_Ma_changedNumber sel_Ma_changedNumber ml_Ma_80 (g_rec5 hB) rfl hl.1 ⟨Nat.le_of_ble_eq_true rfl, Nat.le_of_ble_eq_true rfl, Nat.le_of_ble_eq_true rfl, Nat.le_of_ble_eq_true rfl⟩ d_Ma_changedNothingBut_1 (fun H locs hB => ?_)
  have hok := hok.2
  refine lv_if_eq (tgt := 15) hx hb d_Ma_changedNothingBut_4 (by decide) (fun c1 => ?_) (fun c1 => ?_)
  · have hf := hf.trans (if_pos c1)
    refine lv_iconst (v := 1) hx hb d_Ma_changedNothingBut_15 (by decide) ?_
    refine lv_goto (tgt := 20) hx hb d_Ma_changedNothingBut_16 (by decide) ?_
    exact g_zret hC hB hr hlk (by decide) (by decide) (by decide) (by rw [hf]) rfl d_Ma_changedNothingBut_20
  · have hf := hf.trans (if_neg c1)
    refine lv_aload_n hx hb d_Ma_changedNothingBut_7 rfl (lv_at hl 0 rfl) ?_
    refine gg_5_6 (x := (G 5 6)) hC hB rfl fl_Ma_19 d_Ma_changedNothingBut_8 ?_
    refine lv_iload_n hx hb d_Ma_changedNothingBut_11 rfl (lv_at hl 1 rfl) ?_
    refine lv_icmp_ne (tgt := 19) hx hb d_Ma_changedNothingBut_12 (by decide) (fun c2 => ?_) (fun c2 => ?_)
    · have hf := hf.trans (if_neg c2)
      refine lv_iconst (v := 0) hx hb d_Ma_changedNothingBut_19 (by decide) ?_
      exact g_zret hC hB hr hlk (by decide) (by decide) (by decide) (by rw [hf]) rfl d_Ma_changedNothingBut_20
    · have hf := hf.trans (if_pos c2)
      refine lv_iconst (v := 1) hx hb d_Ma_changedNothingBut_15 (by decide) ?_
      refine lv_goto (tgt := 20) hx hb d_Ma_changedNothingBut_16 (by decide) ?_
      exact g_zret hC hB hr hlk (by decide) (by decide) (by decide) (by rw [hf]) rfl d_Ma_changedNothingBut_20
abbrev rm_Ro_undo_5 : Room := { frames := 0, cells := 0, slots := 0, locals := 0 }
def f_Ro_undo_5 (G : gT) (p1 : Int32) : gT := (if (G 9 p1.toNatClampNeg) = (-1) then (g_up (g_up (g_up (g_up (g_up G 5 1 (G 12 p1.toNatClampNeg)) 5 2 (G 13 p1.toNatClampNeg)) 5 3 (G 14 p1.toNatClampNeg)) 5 4 (G 15 p1.toNatClampNeg)) 5 5 0) else (g_up (g_up (g_up (g_up (g_up (g_up G 6 ((G 9 p1.toNatClampNeg).toNatClampNeg) (G 10 p1.toNatClampNeg)) 5 1 (G 12 p1.toNatClampNeg)) 5 2 (G 13 p1.toNatClampNeg)) 5 3 (G 14 p1.toNatClampNeg)) 5 4 (G 15 p1.toNatClampNeg)) 5 5 0))
def ok_Ro_undo_5 (G : gT) (p1 : Int32) : Prop := (vp_in p1 1024 ∧ (((G 9 p1.toNatClampNeg) = (-1) → (vp_in p1 1024 ∧ (vp_in p1 1024 ∧ (vp_in p1 1024 ∧ (vp_in p1 1024 ∧ True))))) ∧ (¬ (G 9 p1.toNatClampNeg) = (-1) → (vp_in p1 1024 ∧ (vp_in p1 1024 ∧ (vp_in (G 9 p1.toNatClampNeg) 264 ∧ (vp_in p1 1024 ∧ (vp_in p1 1024 ∧ (vp_in p1 1024 ∧ (vp_in p1 1024 ∧ True))))))))))
set_option maxHeartbeats 4000000 in
set_option maxRecDepth 100000 in
theorem c_Ro_undo_5 (l : Launch) (G : gT) (p1 : Int32) (O : Int64) (hok : ok_Ro_undo_5 G p1) : gMet l y_Ro_undo w_Ro_undo rm_Ro_undo_5 (fun ad => [.ref (ad 7), .int p1, .ref (ad 5)]) G O (.inl (none)) (f_Ro_undo_5 G p1) O := by
  refine g_body (by decide) (gCode_of _ _ _ _) (fun ad => by simp [lg_sl, Value.category]) ?_
  intro p e s0 s m args below meth c D cI cL ad hC hr hlk htb hB ls hl
  have hC : CallFix p m c b_Ro_undo 3 s args gtb R_Ro := hC
  have hl : lv_has ls 3 [(0, .ref (ad 7)), (1, .int p1), (2, .ref (ad 5))] := hl
  have hx := hC.1
  have hb := hC.2.1
  have hf : f_Ro_undo_5 G p1 = (if (G 9 p1.toNatClampNeg) = (-1) then (g_up (g_up (g_up (g_up (g_up G 5 1 (G 12 p1.toNatClampNeg)) 5 2 (G 13 p1.toNatClampNeg)) 5 3 (G 14 p1.toNatClampNeg)) 5 4 (G 15 p1.toNatClampNeg)) 5 5 0) else (g_up (g_up (g_up (g_up (g_up (g_up G 6 ((G 9 p1.toNatClampNeg).toNatClampNeg) (G 10 p1.toNatClampNeg)) 5 1 (G 12 p1.toNatClampNeg)) 5 2 (G 13 p1.toNatClampNeg)) 5 3 (G 14 p1.toNatClampNeg)) 5 4 (G 15 p1.toNatClampNeg)) 5 5 0)) := rfl
  have hok : (vp_in p1 1024 ∧ (((G 9 p1.toNatClampNeg) = (-1) → (vp_in p1 1024 ∧ (vp_in p1 1024 ∧ (vp_in p1 1024 ∧ (vp_in p1 1024 ∧ True))))) ∧ (¬ (G 9 p1.toNatClampNeg) = (-1) → (vp_in p1 1024 ∧ (vp_in p1 1024 ∧ (vp_in (G 9 p1.toNatClampNeg) 264 ∧ (vp_in p1 1024 ∧ (vp_in p1 1024 ∧ (vp_in p1 1024 ∧ (vp_in p1 1024 ∧ True)))))))))) := hok
  refine lv_aload_n hx hb d_Ro_undo_0 rfl (lv_at hl 0 rfl) ?_
  refine gr_7_6 hC hB fl_Ro_15 d_Ro_undo_1 ?_
  refine lv_iload_n hx hb d_Ro_undo_4 rfl (lv_at hl 1 rfl) ?_
  refine ga_9 (x := (G 9 p1.toNatClampNeg)) hC hB hok.1 rfl d_Ro_undo_5 ?_
  have hok := hok.2
  refine lv_iconst (v := (-1)) hx hb d_Ro_undo_6 (by decide) ?_
  refine lv_icmp_eq (tgt := 27) hx hb d_Ro_undo_7 (by decide) (fun c1 => ?_) (fun c1 => ?_)
  · have hf := hf.trans (if_pos c1)
    have hok := hok.1 c1
    refine lv_aload_n hx hb d_Ro_undo_27 rfl (lv_at hl 2 rfl) ?_
    refine lv_aload_n hx hb d_Ro_undo_28 rfl (lv_at hl 0 rfl) ?_
    refine gr_7_9 hC hB fl_Ro_24 d_Ro_undo_29 ?_
    refine lv_iload_n hx hb d_Ro_undo_32 rfl (lv_at hl 1 rfl) ?_
    refine ga_12 (x := (G 12 p1.toNatClampNeg)) hC hB hok.1 rfl d_Ro_undo_33 ?_
    have hok := hok.2
    refine gp_5_1 hC hB fl_Ro_89 d_Ro_undo_34 (fun H locs hB => ?_)
    refine lv_aload_n hx hb d_Ro_undo_37 rfl (lv_at hl 2 rfl) ?_
    refine lv_aload_n hx hb d_Ro_undo_38 rfl (lv_at hl 0 rfl) ?_
    refine gr_7_10 hC hB fl_Ro_27 d_Ro_undo_39 ?_
    refine lv_iload_n hx hb d_Ro_undo_42 rfl (lv_at hl 1 rfl) ?_
    refine ga_13 (x := (G 13 p1.toNatClampNeg)) hC hB hok.1 rfl d_Ro_undo_43 ?_
    have hok := hok.2
    refine gp_5_2 hC hB fl_Ro_92 d_Ro_undo_44 (fun H locs hB => ?_)
    refine lv_aload_n hx hb d_Ro_undo_47 rfl (lv_at hl 2 rfl) ?_
    refine lv_aload_n hx hb d_Ro_undo_48 rfl (lv_at hl 0 rfl) ?_
    refine gr_7_11 hC hB fl_Ro_30 d_Ro_undo_49 ?_
    refine lv_iload_n hx hb d_Ro_undo_52 rfl (lv_at hl 1 rfl) ?_
    refine ga_14 (x := (G 14 p1.toNatClampNeg)) hC hB hok.1 rfl d_Ro_undo_53 ?_
    have hok := hok.2
    refine gp_5_3 hC hB fl_Ro_95 d_Ro_undo_54 (fun H locs hB => ?_)
    refine lv_aload_n hx hb d_Ro_undo_57 rfl (lv_at hl 2 rfl) ?_
    refine lv_aload_n hx hb d_Ro_undo_58 rfl (lv_at hl 0 rfl) ?_
    refine gr_7_12 hC hB fl_Ro_33 d_Ro_undo_59 ?_
    refine lv_iload_n hx hb d_Ro_undo_62 rfl (lv_at hl 1 rfl) ?_
    refine ga_15 (x := (G 15 p1.toNatClampNeg)) hC hB hok.1 rfl d_Ro_undo_63 ?_
    have hok := hok.2
    refine gp_5_4 hC hB fl_Ro_97 d_Ro_undo_64 (fun H locs hB => ?_)
    refine lv_aload_n hx hb d_Ro_undo_67 rfl (lv_at hl 2 rfl) ?_
    refine lv_iconst (v := 0) hx hb d_Ro_undo_68 (by decide) ?_
    refine gp_5_5 hC hB fl_Ro_100 d_Ro_undo_69 (fun H locs hB => ?_)
    exact g_vret hC hB hr hlk (by decide) (by decide) rfl hf d_Ro_undo_72
  · have hf := hf.trans (if_neg c1)
    have hok := hok.2 c1
    refine lv_aload_n hx hb d_Ro_undo_10 rfl (lv_at hl 2 rfl) ?_
    refine gr_5_0 hC hB fl_Ro_67 d_Ro_undo_11 ?_
    refine lv_aload_n hx hb d_Ro_undo_14 rfl (lv_at hl 0 rfl) ?_
    refine gr_7_6 hC hB fl_Ro_15 d_Ro_undo_15 ?_
    refine lv_iload_n hx hb d_Ro_undo_18 rfl (lv_at hl 1 rfl) ?_
    refine ga_9 (x := (G 9 p1.toNatClampNeg)) hC hB hok.1 rfl d_Ro_undo_19 ?_
    have hok := hok.2
    refine lv_aload_n hx hb d_Ro_undo_20 rfl (lv_at hl 0 rfl) ?_
    refine gr_7_7 hC hB fl_Ro_18 d_Ro_undo_21 ?_
    refine lv_iload_n hx hb d_Ro_undo_24 rfl (lv_at hl 1 rfl) ?_
    refine ga_10 (x := (G 10 p1.toNatClampNeg)) hC hB hok.1 rfl d_Ro_undo_25 ?_
    have hok := hok.2
    refine gs_6 hC hB hok.1 d_Ro_undo_26 (fun H locs hB => ?_)
    have hok := hok.2
    refine lv_aload_n hx hb d_Ro_undo_27 rfl (lv_at hl 2 rfl) ?_
    refine lv_aload_n hx hb d_Ro_undo_28 rfl (lv_at hl 0 rfl) ?_
    refine gr_7_9 hC hB fl_Ro_24 d_Ro_undo_29 ?_
    refine lv_iload_n hx hb d_Ro_undo_32 rfl (lv_at hl 1 rfl) ?_
    refine ga_12 (x := (G 12 p1.toNatClampNeg)) hC hB hok.1 rfl d_Ro_undo_33 ?_
    have hok := hok.2
    refine gp_5_1 hC hB fl_Ro_89 d_Ro_undo_34 (fun H locs hB => ?_)
    refine lv_aload_n hx hb d_Ro_undo_37 rfl (lv_at hl 2 rfl) ?_
    refine lv_aload_n hx hb d_Ro_undo_38 rfl (lv_at hl 0 rfl) ?_
    refine gr_7_10 hC hB fl_Ro_27 d_Ro_undo_39 ?_
    refine lv_iload_n hx hb d_Ro_undo_42 rfl (lv_at hl 1 rfl) ?_
    refine ga_13 (x := (G 13 p1.toNatClampNeg)) hC hB hok.1 rfl d_Ro_undo_43 ?_
    have hok := hok.2
    refine gp_5_2 hC hB fl_Ro_92 d_Ro_undo_44 (fun H locs hB => ?_)
    refine lv_aload_n hx hb d_Ro_undo_47 rfl (lv_at hl 2 rfl) ?_
    refine lv_aload_n hx hb d_Ro_undo_48 rfl (lv_at hl 0 rfl) ?_
    refine gr_7_11 hC hB fl_Ro_30 d_Ro_undo_49 ?_
    refine lv_iload_n hx hb d_Ro_undo_52 rfl (lv_at hl 1 rfl) ?_
    refine ga_14 (x := (G 14 p1.toNatClampNeg)) hC hB hok.1 rfl d_Ro_undo_53 ?_
    have hok := hok.2
    refine gp_5_3 hC hB fl_Ro_95 d_Ro_undo_54 (fun H locs hB => ?_)
    refine lv_aload_n hx hb d_Ro_undo_57 rfl (lv_at hl 2 rfl) ?_
    refine lv_aload_n hx hb d_Ro_undo_58 rfl (lv_at hl 0 rfl) ?_
    refine gr_7_12 hC hB fl_Ro_33 d_Ro_undo_59 ?_
    refine lv_iload_n hx hb d_Ro_undo_62 rfl (lv_at hl 1 rfl) ?_
    refine ga_15 (x := (G 15 p1.toNatClampNeg)) hC hB hok.1 rfl d_Ro_undo_63 ?_
    have hok := hok.2
    refine gp_5_4 hC hB fl_Ro_97 d_Ro_undo_64 (fun H locs hB => ?_)
    refine lv_aload_n hx hb d_Ro_undo_67 rfl (lv_at hl 2 rfl) ?_
    refine lv_iconst (v := 0) hx hb d_Ro_undo_68 (by decide) ?_
    refine gp_5_5 hC hB fl_Ro_100 d_Ro_undo_69 (fun H locs hB => ?_)
    exact g_vret hC hB hr hlk (by decide) (by decide) rfl hf d_Ro_undo_72
abbrev rm_Ro_sameNumbersBehind_5 : Room := { frames := 2, cells := 0, slots := 0, locals := 25 }
def f_Ro_sameNumbersBehind_5 (G : gT) (p1 : Int32) : Int32 := (if (f_Ma_changedNothingBut_5 G (G 9 ((f_Ro_slot G p1).toNatClampNeg))) = 0 then 0 else (if (G 9 ((f_Ro_slot G p1).toNatClampNeg)) = (-1) then 1 else (if (G 6 ((G 9 ((f_Ro_slot G p1).toNatClampNeg)).toNatClampNeg)) = (G 11 ((f_Ro_slot G p1).toNatClampNeg)) then 1 else 0)))
def ok_Ro_sameNumbersBehind_5 (G : gT) (p1 : Int32) : Prop := (vp_in (f_Ro_slot G p1) 1024 ∧ (ok_Ma_changedNothingBut_5 G (G 9 ((f_Ro_slot G p1).toNatClampNeg)) ∧ (((f_Ma_changedNothingBut_5 G (G 9 ((f_Ro_slot G p1).toNatClampNeg))) = 0 → True) ∧ (¬ (f_Ma_changedNothingBut_5 G (G 9 ((f_Ro_slot G p1).toNatClampNeg))) = 0 → (((G 9 ((f_Ro_slot G p1).toNatClampNeg)) = (-1) → True) ∧ (¬ (G 9 ((f_Ro_slot G p1).toNatClampNeg)) = (-1) → (vp_in (G 9 ((f_Ro_slot G p1).toNatClampNeg)) 264 ∧ (vp_in (f_Ro_slot G p1) 1024 ∧ True))))))))
set_option maxHeartbeats 4000000 in
set_option maxRecDepth 100000 in
theorem c_Ro_sameNumbersBehind_5 (l : Launch) (G : gT) (p1 : Int32) (O : Int64) (hok : ok_Ro_sameNumbersBehind_5 G p1) : gMet l y_Ro_sameNumbersBehind w_Ro_sameNumbersBehind rm_Ro_sameNumbersBehind_5 (fun ad => [.ref (ad 7), .int p1, .ref (ad 5)]) G O (.inl (some (.int (f_Ro_sameNumbersBehind_5 G p1)))) G O := by
  refine g_body (by decide) (gCode_of _ _ _ _) (fun ad => by simp [lg_sl, Value.category]) ?_
  intro p e s0 s m args below meth c D cI cL ad hC hr hlk htb hB ls hl
  have hC : CallFix p m c b_Ro_sameNumbersBehind 5 s args gtb R_Ro := hC
  have hl : lv_has ls 5 [(0, .ref (ad 7)), (1, .int p1), (2, .ref (ad 5))] := hl
  have hx := hC.1
  have hb := hC.2.1
  have hf : f_Ro_sameNumbersBehind_5 G p1 = (if (f_Ma_changedNothingBut_5 G (G 9 ((f_Ro_slot G p1).toNatClampNeg))) = 0 then 0 else (if (G 9 ((f_Ro_slot G p1).toNatClampNeg)) = (-1) then 1 else (if (G 6 ((G 9 ((f_Ro_slot G p1).toNatClampNeg)).toNatClampNeg)) = (G 11 ((f_Ro_slot G p1).toNatClampNeg)) then 1 else 0))) := rfl
  have hok : (vp_in (f_Ro_slot G p1) 1024 ∧ (ok_Ma_changedNothingBut_5 G (G 9 ((f_Ro_slot G p1).toNatClampNeg)) ∧ (((f_Ma_changedNothingBut_5 G (G 9 ((f_Ro_slot G p1).toNatClampNeg))) = 0 → True) ∧ (¬ (f_Ma_changedNothingBut_5 G (G 9 ((f_Ro_slot G p1).toNatClampNeg))) = 0 → (((G 9 ((f_Ro_slot G p1).toNatClampNeg)) = (-1) → True) ∧ (¬ (G 9 ((f_Ro_slot G p1).toNatClampNeg)) = (-1) → (vp_in (G 9 ((f_Ro_slot G p1).toNatClampNeg)) 264 ∧ (vp_in (f_Ro_slot G p1) 1024 ∧ True)))))))) := hok
  refine lv_iload_n hx hb d_Ro_sameNumbersBehind_0 rfl (lv_at hl 1 rfl) ?_
  refine g_callSi (As := [.int p1]) (rest := []) hC hB (c_Ro_slot l G p1 O) rfl key_Ro_slot rfl sta_Ro_slot ml_Ro_58 rfl hl.1 ⟨Nat.le_of_ble_eq_true rfl, Nat.le_of_ble_eq_true rfl, Nat.le_of_ble_eq_true rfl, Nat.le_of_ble_eq_true rfl⟩ d_Ro_sameNumbersBehind_1 (fun H locs hB => ?_)
  refine lv_istore_n (lv' := [(3, .int (f_Ro_slot G p1)), (0, .ref (ad 7)), (1, .int p1), (2, .ref (ad 5))]) hx hb d_Ro_sameNumbersBehind_4 rfl hl (by decide) rfl (fun ls hl => ?_)
  refine lv_aload_n hx hb d_Ro_sameNumbersBehind_5 rfl (lv_at hl 1 rfl) ?_
  refine gr_7_6 hC hB fl_Ro_15 d_Ro_sameNumbersBehind_6 ?_
  refine lv_iload_n hx hb d_Ro_sameNumbersBehind_9 rfl (lv_at hl 0 rfl) ?_
  refine ga_9 (x := (G 9 ((f_Ro_slot G p1).toNatClampNeg))) hC hB hok.1 rfl d_Ro_sameNumbersBehind_10 ?_
  have hok := hok.2
  refine lv_istore (lv' := [(4, .int (G 9 ((f_Ro_slot G p1).toNatClampNeg))), (3, .int (f_Ro_slot G p1)), (0, .ref (ad 7)), (1, .int p1), (2, .ref (ad 5))]) hx hb d_Ro_sameNumbersBehind_11 hl (by decide) rfl (fun ls hl => ?_)
  refine lv_aload_n hx hb d_Ro_sameNumbersBehind_13 rfl (lv_at hl 4 rfl) ?_
  refine lv_iload hx hb d_Ro_sameNumbersBehind_14 (lv_at hl 0 rfl) ?_
  refine g_callVi (b := ad 5) (As := [.int (G 9 ((f_Ro_slot G p1).toNatClampNeg))]) (rest := []) hC hB (c_Ma_changedNothingBut_5 l G (G 9 ((f_Ro_slot G p1).toNatClampNeg)) O hok.1) rfl key_Ma_changedNothingBut rfl ins_Ma_changedNothingBut sel_Ma_changedNothingBut ml_Ro_103 (g_rec5 hB) rfl hl.1 ⟨Nat.le_of_ble_eq_true rfl, Nat.le_of_ble_eq_true rfl, Nat.le_of_ble_eq_true rfl, Nat.le_of_ble_eq_true rfl⟩ d_Ro_sameNumbersBehind_16 (fun H locs hB => ?_)
  have hok := hok.2
  refine lv_if_eq (tgt := 48) hx hb d_Ro_sameNumbersBehind_19 (by decide) (fun c1 => ?_) (fun c1 => ?_)
  · have hf := hf.trans (if_pos c1)
    have hok := hok.1 c1
    refine lv_iconst (v := 0) hx hb d_Ro_sameNumbersBehind_48 (by decide) ?_
    exact g_zret hC hB hr hlk (by decide) (by decide) (by decide) (by rw [hf]) rfl d_Ro_sameNumbersBehind_49
  · have hf := hf.trans (if_neg c1)
    have hok := hok.2 c1
    refine lv_iload hx hb d_Ro_sameNumbersBehind_22 (lv_at hl 0 rfl) ?_
    refine lv_iconst (v := (-1)) hx hb d_Ro_sameNumbersBehind_24 (by decide) ?_
    refine lv_icmp_eq (tgt := 44) hx hb d_Ro_sameNumbersBehind_25 (by decide) (fun c2 => ?_) (fun c2 => ?_)
    · have hf := hf.trans (if_pos c2)
      have hok := hok.1 c2
      refine lv_iconst (v := 1) hx hb d_Ro_sameNumbersBehind_44 (by decide) ?_
      refine lv_goto (tgt := 49) hx hb d_Ro_sameNumbersBehind_45 (by decide) ?_
      exact g_zret hC hB hr hlk (by decide) (by decide) (by decide) (by rw [hf]) rfl d_Ro_sameNumbersBehind_49
    · have hf := hf.trans (if_neg c2)
      have hok := hok.2 c2
      refine lv_aload_n hx hb d_Ro_sameNumbersBehind_28 rfl (lv_at hl 4 rfl) ?_
      refine gr_5_0 hC hB fl_Ro_67 d_Ro_sameNumbersBehind_29 ?_
      refine lv_iload hx hb d_Ro_sameNumbersBehind_32 (lv_at hl 0 rfl) ?_
      refine ga_6 (x := (G 6 ((G 9 ((f_Ro_slot G p1).toNatClampNeg)).toNatClampNeg))) hC hB hok.1 rfl d_Ro_sameNumbersBehind_34 ?_
      have hok := hok.2
      refine lv_aload_n hx hb d_Ro_sameNumbersBehind_35 rfl (lv_at hl 2 rfl) ?_
      refine gr_7_8 hC hB fl_Ro_21 d_Ro_sameNumbersBehind_36 ?_
      refine lv_iload_n hx hb d_Ro_sameNumbersBehind_39 rfl (lv_at hl 1 rfl) ?_
      refine ga_11 (x := (G 11 ((f_Ro_slot G p1).toNatClampNeg))) hC hB hok.1 rfl d_Ro_sameNumbersBehind_40 ?_
      have hok := hok.2
      refine lv_icmp_ne (tgt := 48) hx hb d_Ro_sameNumbersBehind_41 (by decide) (fun c3 => ?_) (fun c3 => ?_)
      · have hf := hf.trans (if_neg c3)
        refine lv_iconst (v := 0) hx hb d_Ro_sameNumbersBehind_48 (by decide) ?_
        exact g_zret hC hB hr hlk (by decide) (by decide) (by decide) (by rw [hf]) rfl d_Ro_sameNumbersBehind_49
      · have hf := hf.trans (if_pos c3)
        refine lv_iconst (v := 1) hx hb d_Ro_sameNumbersBehind_44 (by decide) ?_
        refine lv_goto (tgt := 49) hx hb d_Ro_sameNumbersBehind_45 (by decide) ?_
        exact g_zret hC hB hr hlk (by decide) (by decide) (by decide) (by rw [hf]) rfl d_Ro_sameNumbersBehind_49
end
section
theorem z_Mo_within (G : gT) (p0 p1 p2 : Int32) : f_Mo_within G p0 p1 p2 = 0 ∨ f_Mo_within G p0 p1 p2 = 1 := by
  unfold f_Mo_within
  repeat' split
  all_goals first | exact Or.inl rfl | exact Or.inr rfl
abbrev rm_Mo_stateAt : Room := { frames := 1, cells := 0, slots := 0, locals := 14 }
def f_Mo_stateAt (G : gT) (p1 : Int32) (p2 : Int32) : Int32 := (if p1 = (G 16 11) then (G 19 p2.toNatClampNeg) else (G 21 (((269 * (f_Mo_slot G p1)) + p2).toNatClampNeg)))
def ok_Mo_stateAt (G : gT) (p1 : Int32) (p2 : Int32) : Prop := ((p1 = (G 16 11) → (vp_in p2 269 ∧ True)) ∧ (¬ p1 = (G 16 11) → (vp_in ((269 * (f_Mo_slot G p1)) + p2) 275725 ∧ True)))
set_option maxHeartbeats 4000000 in
set_option maxRecDepth 100000 in
theorem c_Mo_stateAt (l : Launch) (G : gT) (p1 : Int32) (p2 : Int32) (O : Int64) (hok : ok_Mo_stateAt G p1 p2) : gMet l y_Mo_stateAt w_Mo_stateAt rm_Mo_stateAt (fun ad => [.ref (ad 16), .int p1, .int p2]) G O (.inl (some (.int (f_Mo_stateAt G p1 p2)))) G O := by
  refine g_body (by decide) (gCode_of _ _ _ _) (fun ad => by simp [lg_sl, Value.category]) ?_
  intro p e s0 s m args below meth c D cI cL ad hC hr hlk htb hB ls hl
  have hC : CallFix p m c b_Mo_stateAt 3 s args gtb R_Mo := hC
  have hl : lv_has ls 3 [(0, .ref (ad 16)), (1, .int p1), (2, .int p2)] := hl
  have hx := hC.1
  have hb := hC.2.1
  have hf : f_Mo_stateAt G p1 p2 = (if p1 = (G 16 11) then (G 19 p2.toNatClampNeg) else (G 21 (((269 * (f_Mo_slot G p1)) + p2).toNatClampNeg))) := rfl
  have hok : ((p1 = (G 16 11) → (vp_in p2 269 ∧ True)) ∧ (¬ p1 = (G 16 11) → (vp_in ((269 * (f_Mo_slot G p1)) + p2) 275725 ∧ True))) := hok
  refine lv_iload_n hx hb d_Mo_stateAt_0 rfl (lv_at hl 1 rfl) ?_
  refine lv_aload_n hx hb d_Mo_stateAt_1 rfl (lv_at hl 0 rfl) ?_
  refine gg_16_11 (x := (G 16 11)) hC hB rfl fl_Mo_57 d_Mo_stateAt_2 ?_
  refine lv_icmp_ne (tgt := 17) hx hb d_Mo_stateAt_5 (by decide) (fun c1 => ?_) (fun c1 => ?_)
  · have hf := hf.trans (if_neg c1)
    have hok := hok.2 c1
    refine lv_aload_n hx hb d_Mo_stateAt_17 rfl (lv_at hl 0 rfl) ?_
    refine gr_16_8 hC hB fl_Mo_23 d_Mo_stateAt_18 ?_
    refine lv_sipush (v := 269) hx hb d_Mo_stateAt_21 (by decide) ?_
    refine lv_iload_n hx hb d_Mo_stateAt_24 rfl (lv_at hl 1 rfl) ?_
    refine g_callSi (As := [.int p1]) (rest := [.int 269, .ref (ad 21)]) hC hB (c_Mo_slot l G p1 O) rfl key_Mo_slot rfl sta_Mo_slot ml_Mo_60 rfl hl.1 ⟨Nat.le_of_ble_eq_true rfl, Nat.le_of_ble_eq_true rfl, Nat.le_of_ble_eq_true rfl, Nat.le_of_ble_eq_true rfl⟩ d_Mo_stateAt_25 (fun H locs hB => ?_)
    refine lv_imul hx hb d_Mo_stateAt_28 ?_
    refine lv_iload_n hx hb d_Mo_stateAt_29 rfl (lv_at hl 2 rfl) ?_
    refine lv_iadd hx hb d_Mo_stateAt_30 ?_
    refine ga_21 (x := (G 21 (((269 * (f_Mo_slot G p1)) + p2).toNatClampNeg))) hC hB hok.1 rfl d_Mo_stateAt_31 ?_
    have hok := hok.2
    exact g_iret hC hB hr hlk (by decide) (by decide) (by rw [hf]) rfl d_Mo_stateAt_32
  · have hf := hf.trans (if_pos c1)
    have hok := hok.1 c1
    refine lv_aload_n hx hb d_Mo_stateAt_8 rfl (lv_at hl 0 rfl) ?_
    refine gr_16_6 hC hB fl_Mo_16 d_Mo_stateAt_9 ?_
    refine lv_iload_n hx hb d_Mo_stateAt_12 rfl (lv_at hl 2 rfl) ?_
    refine ga_19 (x := (G 19 p2.toNatClampNeg)) hC hB hok.1 rfl d_Mo_stateAt_13 ?_
    have hok := hok.2
    refine lv_goto (tgt := 32) hx hb d_Mo_stateAt_14 (by decide) ?_
    exact g_iret hC hB hr hlk (by decide) (by decide) (by rw [hf]) rfl d_Mo_stateAt_32
abbrev rm_Mo_program : Room := { frames := 1, cells := 0, slots := 0, locals := 14 }
def f_Mo_program (G : gT) (p1 : Int32) (p2 : Int32) : Int32 × gT := (if (f_Mo_within (g_up G 16 0 0) p1 0 63) = 0 then ((f_Mo_fail (g_up G 16 0 0) 1).1, (f_Mo_fail (g_up G 16 0 0) 1).2) else ((G 17 p1.toNatClampNeg), (g_up (g_up G 16 0 0) 17 p1.toNatClampNeg p2)))
def ok_Mo_program (G : gT) (p1 : Int32) (p2 : Int32) : Prop := (((f_Mo_within (g_up G 16 0 0) p1 0 63) = 0 → True) ∧ (¬ (f_Mo_within (g_up G 16 0 0) p1 0 63) = 0 → (vp_in p1 64 ∧ (vp_in p1 64 ∧ True))))
set_option maxHeartbeats 4000000 in
set_option maxRecDepth 100000 in
theorem c_Mo_program (l : Launch) (G : gT) (p1 : Int32) (p2 : Int32) (O : Int64) (hok : ok_Mo_program G p1 p2) : gMet l y_Mo_program w_Mo_program rm_Mo_program (fun ad => [.ref (ad 16), .int p1, .int p2]) G O (.inl (some (.int (f_Mo_program G p1 p2).1))) ((f_Mo_program G p1 p2).2) O := by
  refine g_body (by decide) (gCode_of _ _ _ _) (fun ad => by simp [lg_sl, Value.category]) ?_
  intro p e s0 s m args below meth c D cI cL ad hC hr hlk htb hB ls hl
  have hC : CallFix p m c b_Mo_program 4 s args gtb R_Mo := hC
  have hl : lv_has ls 4 [(0, .ref (ad 16)), (1, .int p1), (2, .int p2)] := hl
  have hx := hC.1
  have hb := hC.2.1
  have hf : f_Mo_program G p1 p2 = (if (f_Mo_within (g_up G 16 0 0) p1 0 63) = 0 then ((f_Mo_fail (g_up G 16 0 0) 1).1, (f_Mo_fail (g_up G 16 0 0) 1).2) else ((G 17 p1.toNatClampNeg), (g_up (g_up G 16 0 0) 17 p1.toNatClampNeg p2))) := rfl
  have hok : (((f_Mo_within (g_up G 16 0 0) p1 0 63) = 0 → True) ∧ (¬ (f_Mo_within (g_up G 16 0 0) p1 0 63) = 0 → (vp_in p1 64 ∧ (vp_in p1 64 ∧ True)))) := hok
  refine lv_aload_n hx hb d_Mo_program_0 rfl (lv_at hl 0 rfl) ?_
  refine lv_iconst (v := 0) hx hb d_Mo_program_1 (by decide) ?_
  refine gp_16_0 hC hB fl_Mo_43 d_Mo_program_2 (fun H locs hB => ?_)
  refine lv_iload_n hx hb d_Mo_program_5 rfl (lv_at hl 1 rfl) ?_
  refine lv_iconst (v := 0) hx hb d_Mo_program_6 (by decide) ?_
  refine lv_bipush (v := 63) hx hb d_Mo_program_7 (by decide) ?_
  refine g_callSi (As := [.int p1, .int 0, .int 63]) (rest := []) hC hB (c_Mo_within l (g_up G 16 0 0) p1 0 63 O) rfl key_Mo_within rfl sta_Mo_within ml_Mo_46 rfl hl.1 ⟨Nat.le_of_ble_eq_true rfl, Nat.le_of_ble_eq_true rfl, Nat.le_of_ble_eq_true rfl, Nat.le_of_ble_eq_true rfl⟩ d_Mo_program_9 (fun H locs hB => ?_)
  refine lv_if_ne (tgt := 21) hx hb d_Mo_program_12 (by decide) (fun c1 => ?_) (fun c1 => ?_)
  · have hf := hf.trans (if_neg c1)
    have hok := hok.2 c1
    refine lv_aload_n hx hb d_Mo_program_21 rfl (lv_at hl 0 rfl) ?_
    refine gr_16_3 hC hB fl_Mo_7 d_Mo_program_22 ?_
    refine lv_iload_n hx hb d_Mo_program_25 rfl (lv_at hl 1 rfl) ?_
    refine ga_17 (x := (G 17 p1.toNatClampNeg)) hC hB hok.1 rfl d_Mo_program_26 ?_
    have hok := hok.2
    refine lv_istore_n (lv' := [(3, .int (G 17 p1.toNatClampNeg)), (0, .ref (ad 16)), (1, .int p1), (2, .int p2)]) hx hb d_Mo_program_27 rfl hl (by decide) rfl (fun ls hl => ?_)
    refine lv_aload_n hx hb d_Mo_program_28 rfl (lv_at hl 1 rfl) ?_
    refine gr_16_3 hC hB fl_Mo_7 d_Mo_program_29 ?_
    refine lv_iload_n hx hb d_Mo_program_32 rfl (lv_at hl 2 rfl) ?_
    refine lv_iload_n hx hb d_Mo_program_33 rfl (lv_at hl 3 rfl) ?_
    refine gs_17 hC hB hok.1 d_Mo_program_34 (fun H locs hB => ?_)
    have hok := hok.2
    refine lv_iload_n hx hb d_Mo_program_35 rfl (lv_at hl 0 rfl) ?_
    exact g_iret hC hB hr hlk (by decide) (by decide) (by rw [hf]) (by rw [hf]) d_Mo_program_36
  · have hf := hf.trans (if_pos c1)
    have hok := hok.1 c1
    refine lv_aload_n hx hb d_Mo_program_15 rfl (lv_at hl 0 rfl) ?_
    refine lv_iconst (v := 1) hx hb d_Mo_program_16 (by decide) ?_
    refine g_callVi (b := ad 16) (As := [.int 1]) (rest := []) hC hB (c_Mo_fail l (g_up G 16 0 0) 1 O) rfl key_Mo_fail rfl ins_Mo_fail sel_Mo_fail ml_Mo_50 (g_rec16 hB) rfl hl.1 ⟨Nat.le_of_ble_eq_true rfl, Nat.le_of_ble_eq_true rfl, Nat.le_of_ble_eq_true rfl, Nat.le_of_ble_eq_true rfl⟩ d_Mo_program_17 (fun H locs hB => ?_)
    exact g_iret hC hB hr hlk (by decide) (by decide) (by rw [hf]) (by rw [hf]) d_Mo_program_20
abbrev rm_Mo_input : Room := { frames := 1, cells := 0, slots := 0, locals := 13 }
def f_Mo_input (G : gT) (p1 : Int32) : Int32 × gT := (if (G 16 4) = 200 then ((f_Mo_fail (g_up G 16 0 0) 1).1, (f_Mo_fail (g_up G 16 0 0) 1).2) else (((G 16 4) + 1) - (G 19 265), (g_up (g_up (g_up G 16 0 0) 18 ((G 16 4).toNatClampNeg) p1) 16 4 ((G 16 4) + 1))))
def ok_Mo_input (G : gT) (p1 : Int32) : Prop := (((G 16 4) = 200 → True) ∧ (¬ (G 16 4) = 200 → (vp_in (G 16 4) 200 ∧ True)))
set_option maxHeartbeats 4000000 in
set_option maxRecDepth 100000 in
theorem c_Mo_input (l : Launch) (G : gT) (p1 : Int32) (O : Int64) (hok : ok_Mo_input G p1) : gMet l y_Mo_input w_Mo_input rm_Mo_input (fun ad => [.ref (ad 16), .int p1]) G O (.inl (some (.int (f_Mo_input G p1).1))) ((f_Mo_input G p1).2) O := by
  refine g_body (by decide) (gCode_of _ _ _ _) (fun ad => by simp [lg_sl, Value.category]) ?_
  intro p e s0 s m args below meth c D cI cL ad hC hr hlk htb hB ls hl
  have hC : CallFix p m c b_Mo_input 2 s args gtb R_Mo := hC
  have hl : lv_has ls 2 [(0, .ref (ad 16)), (1, .int p1)] := hl
  have hx := hC.1
  have hb := hC.2.1
  have hf : f_Mo_input G p1 = (if (G 16 4) = 200 then ((f_Mo_fail (g_up G 16 0 0) 1).1, (f_Mo_fail (g_up G 16 0 0) 1).2) else (((G 16 4) + 1) - (G 19 265), (g_up (g_up (g_up G 16 0 0) 18 ((G 16 4).toNatClampNeg) p1) 16 4 ((G 16 4) + 1)))) := rfl
  have hok : (((G 16 4) = 200 → True) ∧ (¬ (G 16 4) = 200 → (vp_in (G 16 4) 200 ∧ True))) := hok
  refine lv_aload_n hx hb d_Mo_input_0 rfl (lv_at hl 0 rfl) ?_
  refine lv_iconst (v := 0) hx hb d_Mo_input_1 (by decide) ?_
  refine gp_16_0 hC hB fl_Mo_43 d_Mo_input_2 (fun H locs hB => ?_)
  refine lv_aload_n hx hb d_Mo_input_5 rfl (lv_at hl 0 rfl) ?_
  refine gg_16_4 (x := (G 16 4)) hC hB rfl fl_Mo_54 d_Mo_input_6 ?_
  refine lv_sipush (v := 200) hx hb d_Mo_input_9 (by decide) ?_
  refine lv_icmp_ne (tgt := 21) hx hb d_Mo_input_12 (by decide) (fun c1 => ?_) (fun c1 => ?_)
  · have hf := hf.trans (if_neg c1)
    have hok := hok.2 c1
    refine lv_aload_n hx hb d_Mo_input_21 rfl (lv_at hl 0 rfl) ?_
    refine gr_16_5 hC hB fl_Mo_13 d_Mo_input_22 ?_
    refine lv_aload_n hx hb d_Mo_input_25 rfl (lv_at hl 0 rfl) ?_
    refine gg_16_4 (x := (G 16 4)) hC hB rfl fl_Mo_54 d_Mo_input_26 ?_
    refine lv_iload_n hx hb d_Mo_input_29 rfl (lv_at hl 1 rfl) ?_
    refine gs_18 hC hB hok.1 d_Mo_input_30 (fun H locs hB => ?_)
    have hok := hok.2
    refine lv_aload_n hx hb d_Mo_input_31 rfl (lv_at hl 0 rfl) ?_
    refine lv_dup hx hb d_Mo_input_32 rfl ?_
    refine gg_16_4 (x := (G 16 4)) hC hB rfl fl_Mo_54 d_Mo_input_33 ?_
    refine lv_iconst (v := 1) hx hb d_Mo_input_36 (by decide) ?_
    refine lv_iadd hx hb d_Mo_input_37 ?_
    refine gp_16_4 hC hB fl_Mo_54 d_Mo_input_38 (fun H locs hB => ?_)
    refine lv_aload_n hx hb d_Mo_input_41 rfl (lv_at hl 0 rfl) ?_
    refine gg_16_4 (x := (G 16 4) + 1) hC hB rfl fl_Mo_54 d_Mo_input_42 ?_
    refine lv_aload_n hx hb d_Mo_input_45 rfl (lv_at hl 0 rfl) ?_
    refine gr_16_6 hC hB fl_Mo_16 d_Mo_input_46 ?_
    refine lv_sipush (v := 265) hx hb d_Mo_input_49 (by decide) ?_
    refine ga_19 (x := (G 19 265)) hC hB (by decide) rfl d_Mo_input_52 ?_
    refine lv_isub hx hb d_Mo_input_53 ?_
    exact g_iret hC hB hr hlk (by decide) (by decide) (by rw [hf]) (by rw [hf]) d_Mo_input_54
  · have hf := hf.trans (if_pos c1)
    have hok := hok.1 c1
    refine lv_aload_n hx hb d_Mo_input_15 rfl (lv_at hl 0 rfl) ?_
    refine lv_iconst (v := 1) hx hb d_Mo_input_16 (by decide) ?_
    refine g_callVi (b := ad 16) (As := [.int 1]) (rest := []) hC hB (c_Mo_fail l (g_up G 16 0 0) 1 O) rfl key_Mo_fail rfl ins_Mo_fail sel_Mo_fail ml_Mo_50 (g_rec16 hB) rfl hl.1 ⟨Nat.le_of_ble_eq_true rfl, Nat.le_of_ble_eq_true rfl, Nat.le_of_ble_eq_true rfl, Nat.le_of_ble_eq_true rfl⟩ d_Mo_input_17 (fun H locs hB => ?_)
    exact g_iret hC hB hr hlk (by decide) (by decide) (by rw [hf]) (by rw [hf]) d_Mo_input_20
abbrev rm_Mo_poke : Room := { frames := 1, cells := 0, slots := 0, locals := 14 }
def f_Mo_poke (G : gT) (p1 : Int32) (p2 : Int32) : Int32 × gT := (if (f_Mo_within (g_up G 16 0 0) p1 0 263) = 0 then ((f_Mo_fail (g_up G 16 0 0) 1).1, (f_Mo_fail (g_up G 16 0 0) 1).2) else ((G 19 p1.toNatClampNeg), (g_up (g_up (g_up (g_up G 16 0 0) 19 p1.toNatClampNeg p2) 16 13 ((G 16 13) + ((G 16 11) - (G 16 12)))) 16 12 (G 16 11))))
def ok_Mo_poke (G : gT) (p1 : Int32) (p2 : Int32) : Prop := (((f_Mo_within (g_up G 16 0 0) p1 0 263) = 0 → True) ∧ (¬ (f_Mo_within (g_up G 16 0 0) p1 0 263) = 0 → (vp_in p1 269 ∧ (vp_in p1 269 ∧ True))))
set_option maxHeartbeats 4000000 in
set_option maxRecDepth 100000 in
theorem c_Mo_poke (l : Launch) (G : gT) (p1 : Int32) (p2 : Int32) (O : Int64) (hok : ok_Mo_poke G p1 p2) : gMet l y_Mo_poke w_Mo_poke rm_Mo_poke (fun ad => [.ref (ad 16), .int p1, .int p2]) G O (.inl (some (.int (f_Mo_poke G p1 p2).1))) ((f_Mo_poke G p1 p2).2) O := by
  refine g_body (by decide) (gCode_of _ _ _ _) (fun ad => by simp [lg_sl, Value.category]) ?_
  intro p e s0 s m args below meth c D cI cL ad hC hr hlk htb hB ls hl
  have hC : CallFix p m c b_Mo_poke 4 s args gtb R_Mo := hC
  have hl : lv_has ls 4 [(0, .ref (ad 16)), (1, .int p1), (2, .int p2)] := hl
  have hx := hC.1
  have hb := hC.2.1
  have hf : f_Mo_poke G p1 p2 = (if (f_Mo_within (g_up G 16 0 0) p1 0 263) = 0 then ((f_Mo_fail (g_up G 16 0 0) 1).1, (f_Mo_fail (g_up G 16 0 0) 1).2) else ((G 19 p1.toNatClampNeg), (g_up (g_up (g_up (g_up G 16 0 0) 19 p1.toNatClampNeg p2) 16 13 ((G 16 13) + ((G 16 11) - (G 16 12)))) 16 12 (G 16 11)))) := rfl
  have hok : (((f_Mo_within (g_up G 16 0 0) p1 0 263) = 0 → True) ∧ (¬ (f_Mo_within (g_up G 16 0 0) p1 0 263) = 0 → (vp_in p1 269 ∧ (vp_in p1 269 ∧ True)))) := hok
  refine lv_aload_n hx hb d_Mo_poke_0 rfl (lv_at hl 0 rfl) ?_
  refine lv_iconst (v := 0) hx hb d_Mo_poke_1 (by decide) ?_
  refine gp_16_0 hC hB fl_Mo_43 d_Mo_poke_2 (fun H locs hB => ?_)
  refine lv_iload_n hx hb d_Mo_poke_5 rfl (lv_at hl 1 rfl) ?_
  refine lv_iconst (v := 0) hx hb d_Mo_poke_6 (by decide) ?_
  refine lv_sipush (v := 263) hx hb d_Mo_poke_7 (by decide) ?_
  refine g_callSi (As := [.int p1, .int 0, .int 263]) (rest := []) hC hB (c_Mo_within l (g_up G 16 0 0) p1 0 263 O) rfl key_Mo_within rfl sta_Mo_within ml_Mo_46 rfl hl.1 ⟨Nat.le_of_ble_eq_true rfl, Nat.le_of_ble_eq_true rfl, Nat.le_of_ble_eq_true rfl, Nat.le_of_ble_eq_true rfl⟩ d_Mo_poke_10 (fun H locs hB => ?_)
  refine lv_if_ne (tgt := 22) hx hb d_Mo_poke_13 (by decide) (fun c1 => ?_) (fun c1 => ?_)
  · have hf := hf.trans (if_neg c1)
    have hok := hok.2 c1
    refine lv_aload_n hx hb d_Mo_poke_22 rfl (lv_at hl 0 rfl) ?_
    refine gr_16_6 hC hB fl_Mo_16 d_Mo_poke_23 ?_
    refine lv_iload_n hx hb d_Mo_poke_26 rfl (lv_at hl 1 rfl) ?_
    refine ga_19 (x := (G 19 p1.toNatClampNeg)) hC hB hok.1 rfl d_Mo_poke_27 ?_
    have hok := hok.2
    refine lv_istore_n (lv' := [(3, .int (G 19 p1.toNatClampNeg)), (0, .ref (ad 16)), (1, .int p1), (2, .int p2)]) hx hb d_Mo_poke_28 rfl hl (by decide) rfl (fun ls hl => ?_)
    refine lv_aload_n hx hb d_Mo_poke_29 rfl (lv_at hl 1 rfl) ?_
    refine gr_16_6 hC hB fl_Mo_16 d_Mo_poke_30 ?_
    refine lv_iload_n hx hb d_Mo_poke_33 rfl (lv_at hl 2 rfl) ?_
    refine lv_iload_n hx hb d_Mo_poke_34 rfl (lv_at hl 3 rfl) ?_
    refine gs_19 hC hB hok.1 d_Mo_poke_35 (fun H locs hB => ?_)
    have hok := hok.2
    refine lv_aload_n hx hb d_Mo_poke_36 rfl (lv_at hl 1 rfl) ?_
    refine lv_dup hx hb d_Mo_poke_37 rfl ?_
    refine gg_16_13 (x := (G 16 13)) hC hB rfl fl_Mo_63 d_Mo_poke_38 ?_
    refine lv_aload_n hx hb d_Mo_poke_41 rfl (lv_at hl 1 rfl) ?_
    refine gg_16_11 (x := (G 16 11)) hC hB rfl fl_Mo_57 d_Mo_poke_42 ?_
    refine lv_aload_n hx hb d_Mo_poke_45 rfl (lv_at hl 1 rfl) ?_
    refine gg_16_12 (x := (G 16 12)) hC hB rfl fl_Mo_66 d_Mo_poke_46 ?_
    refine lv_isub hx hb d_Mo_poke_49 ?_
    refine lv_iadd hx hb d_Mo_poke_50 ?_
    refine gp_16_13 hC hB fl_Mo_63 d_Mo_poke_51 (fun H locs hB => ?_)
    refine lv_aload_n hx hb d_Mo_poke_54 rfl (lv_at hl 1 rfl) ?_
    refine lv_aload_n hx hb d_Mo_poke_55 rfl (lv_at hl 1 rfl) ?_
    refine gg_16_11 (x := (G 16 11)) hC hB rfl fl_Mo_57 d_Mo_poke_56 ?_
    refine gp_16_12 hC hB fl_Mo_66 d_Mo_poke_59 (fun H locs hB => ?_)
    refine lv_iload_n hx hb d_Mo_poke_62 rfl (lv_at hl 0 rfl) ?_
    exact g_iret hC hB hr hlk (by decide) (by decide) (by rw [hf]) (by rw [hf]) d_Mo_poke_63
  · have hf := hf.trans (if_pos c1)
    have hok := hok.1 c1
    refine lv_aload_n hx hb d_Mo_poke_16 rfl (lv_at hl 0 rfl) ?_
    refine lv_iconst (v := 1) hx hb d_Mo_poke_17 (by decide) ?_
    refine g_callVi (b := ad 16) (As := [.int 1]) (rest := []) hC hB (c_Mo_fail l (g_up G 16 0 0) 1 O) rfl key_Mo_fail rfl ins_Mo_fail sel_Mo_fail ml_Mo_50 (g_rec16 hB) rfl hl.1 ⟨Nat.le_of_ble_eq_true rfl, Nat.le_of_ble_eq_true rfl, Nat.le_of_ble_eq_true rfl, Nat.le_of_ble_eq_true rfl⟩ d_Mo_poke_18 (fun H locs hB => ?_)
    exact g_iret hC hB hr hlk (by decide) (by decide) (by rw [hf]) (by rw [hf]) d_Mo_poke_21
abbrev rm_Mo_result : Room := { frames := 0, cells := 0, slots := 0, locals := 0 }
def f_Mo_result (G : gT) (p0 : Int32) (p1 : Int32) (p2 : Int32) (p3 : Int32) : Int32 := (if p0 = 1 then p3 else (if p0 = 2 then p1 + p2 else (if p0 = 3 then p1 - p2 else (if p0 = 4 then p1 ^^^ p2 else (if p0 = 10 then g_ush p1 (p2 &&& 31) else (if p0 = 11 then p1 * p2 else (if p2 ≤ p1 then 0 else 1)))))))
set_option maxHeartbeats 4000000 in
set_option maxRecDepth 100000 in
theorem c_Mo_result (l : Launch) (G : gT) (p0 : Int32) (p1 : Int32) (p2 : Int32) (p3 : Int32) (O : Int64) : gMet l y_Mo_result w_Mo_result rm_Mo_result (fun ad => [.int p0, .int p1, .int p2, .int p3]) G O (.inl (some (.int (f_Mo_result G p0 p1 p2 p3)))) G O := by
  refine g_body (by decide) (gCode_of _ _ _ _) (fun ad => by simp [lg_sl, Value.category]) ?_
  intro p e s0 s m args below meth c D cI cL ad hC hr hlk htb hB ls hl
  have hC : CallFix p m c b_Mo_result 4 s args gtb R_Mo := hC
  have hl : lv_has ls 4 [(0, .int p0), (1, .int p1), (2, .int p2), (3, .int p3)] := hl
  have hx := hC.1
  have hb := hC.2.1
  have hf : f_Mo_result G p0 p1 p2 p3 = (if p0 = 1 then p3 else (if p0 = 2 then p1 + p2 else (if p0 = 3 then p1 - p2 else (if p0 = 4 then p1 ^^^ p2 else (if p0 = 10 then g_ush p1 (p2 &&& 31) else (if p0 = 11 then p1 * p2 else (if p2 ≤ p1 then 0 else 1))))))) := rfl
  refine lv_iload_n hx hb d_Mo_result_0 rfl (lv_at hl 0 rfl) ?_
  by_cases c2 : p0 = 1
  · have hf := hf.trans (if_pos c2)
    refine g_switch (tgt := 60) hC d_Mo_result_1 (fun i hi => by show i < 11; omega) (by rw [c2]; decide) ?_
    refine lv_iload_n hx hb d_Mo_result_60 rfl (lv_at hl 3 rfl) ?_
    exact g_iret hC hB hr hlk (by decide) (by decide) (by rw [hf]) rfl d_Mo_result_61
  · have hf := hf.trans (if_neg c2)
    by_cases c3 : p0 = 2
    · have hf := hf.trans (if_pos c3)
      refine g_switch (tgt := 62) hC d_Mo_result_1 (fun i hi => by show i < 11; omega) (by rw [c3]; decide) ?_
      refine lv_iload_n hx hb d_Mo_result_62 rfl (lv_at hl 1 rfl) ?_
      refine lv_iload_n hx hb d_Mo_result_63 rfl (lv_at hl 2 rfl) ?_
      refine lv_iadd hx hb d_Mo_result_64 ?_
      exact g_iret hC hB hr hlk (by decide) (by decide) (by rw [hf]) rfl d_Mo_result_65
    · have hf := hf.trans (if_neg c3)
      by_cases c4 : p0 = 3
      · have hf := hf.trans (if_pos c4)
        refine g_switch (tgt := 66) hC d_Mo_result_1 (fun i hi => by show i < 11; omega) (by rw [c4]; decide) ?_
        refine lv_iload_n hx hb d_Mo_result_66 rfl (lv_at hl 1 rfl) ?_
        refine lv_iload_n hx hb d_Mo_result_67 rfl (lv_at hl 2 rfl) ?_
        refine lv_isub hx hb d_Mo_result_68 ?_
        exact g_iret hC hB hr hlk (by decide) (by decide) (by rw [hf]) rfl d_Mo_result_69
      · have hf := hf.trans (if_neg c4)
        by_cases c5 : p0 = 4
        · have hf := hf.trans (if_pos c5)
          refine g_switch (tgt := 70) hC d_Mo_result_1 (fun i hi => by show i < 11; omega) (by rw [c5]; decide) ?_
          refine lv_iload_n hx hb d_Mo_result_70 rfl (lv_at hl 1 rfl) ?_
          refine lv_iload_n hx hb d_Mo_result_71 rfl (lv_at hl 2 rfl) ?_
          refine lv_ixor hx hb d_Mo_result_72 ?_
          exact g_iret hC hB hr hlk (by decide) (by decide) (by rw [hf]) rfl d_Mo_result_73
        · have hf := hf.trans (if_neg c5)
          by_cases c6 : p0 = 10
          · have hf := hf.trans (if_pos c6)
            refine g_switch (tgt := 74) hC d_Mo_result_1 (fun i hi => by show i < 11; omega) (by rw [c6]; decide) ?_
            refine lv_iload_n hx hb d_Mo_result_74 rfl (lv_at hl 1 rfl) ?_
            refine lv_iload_n hx hb d_Mo_result_75 rfl (lv_at hl 2 rfl) ?_
            refine lv_bipush (v := 31) hx hb d_Mo_result_76 (by decide) ?_
            refine lv_iand hx hb d_Mo_result_78 ?_
            refine lv_iushr (v := g_ush p1 (p2 &&& 31)) hx hb d_Mo_result_79 rfl ?_
            exact g_iret hC hB hr hlk (by decide) (by decide) (by rw [hf]) rfl d_Mo_result_80
          · have hf := hf.trans (if_neg c6)
            by_cases c7 : p0 = 11
            · have hf := hf.trans (if_pos c7)
              refine g_switch (tgt := 81) hC d_Mo_result_1 (fun i hi => by show i < 11; omega) (by rw [c7]; decide) ?_
              refine lv_iload_n hx hb d_Mo_result_81 rfl (lv_at hl 1 rfl) ?_
              refine lv_iload_n hx hb d_Mo_result_82 rfl (lv_at hl 2 rfl) ?_
              refine lv_imul hx hb d_Mo_result_83 ?_
              exact g_iret hC hB hr hlk (by decide) (by decide) (by rw [hf]) rfl d_Mo_result_84
            · have hf := hf.trans (if_neg c7)
              refine g_switch (tgt := 85) hC d_Mo_result_1 (fun i hi => by show i < 11; omega) ?_ ?_
              · have e0 := g_ne (k := 1) c2 (by decide)
                have e1 := g_ne (k := 2) c3 (by decide)
                have e2 := g_ne (k := 3) c4 (by decide)
                have e3 := g_ne (k := 4) c5 (by decide)
                have e4 := g_ne (k := 10) c6 (by decide)
                have e5 := g_ne (k := 11) c7 (by decide)
                have e : (p0).toInt < 1 ∨ (p0).toInt = 5 ∨ (p0).toInt = 6 ∨ (p0).toInt = 7 ∨ (p0).toInt = 8 ∨ (p0).toInt = 9 ∨ 11 < (p0).toInt := by omega
                generalize (p0).toInt = z at e ⊢
                rcases e with e | e | e | e | e | e | e
                · rw [g_swt, if_pos (by omega)]; decide
                · rw [e]; decide
                · rw [e]; decide
                · rw [e]; decide
                · rw [e]; decide
                · rw [e]; decide
                · rw [g_swt, if_pos (by omega)]; decide
              · refine lv_iload_n hx hb d_Mo_result_85 rfl (lv_at hl 1 rfl) ?_
                refine lv_iload_n hx hb d_Mo_result_86 rfl (lv_at hl 2 rfl) ?_
                refine lv_icmp_ge (tgt := 94) hx hb d_Mo_result_87 (by decide) (fun c1 => ?_) (fun c1 => ?_)
                · have hf := hf.trans (if_pos c1)
                  refine lv_iconst (v := 0) hx hb d_Mo_result_94 (by decide) ?_
                  exact g_iret hC hB hr hlk (by decide) (by decide) (by rw [hf]) rfl d_Mo_result_95
                · have hf := hf.trans (if_neg c1)
                  refine lv_iconst (v := 1) hx hb d_Mo_result_90 (by decide) ?_
                  refine lv_goto (tgt := 95) hx hb d_Mo_result_91 (by decide) ?_
                  exact g_iret hC hB hr hlk (by decide) (by decide) (by rw [hf]) rfl d_Mo_result_95
abbrev rm_Mo_advance_19 : Room := { frames := 1, cells := 0, slots := 0, locals := 15 }
def f_Mo_advance_19 (G : gT) (p2 : Int32) : Int32 × gT := (if (f_Mo_kindOf G (G 17 ((G 19 264).toNatClampNeg))) = 8 then (if (G 19 265) < p2 then (if (f_Mo_kindOf G (G 17 ((G 19 264).toNatClampNeg))) = 0 then (if (f_Mo_kindOf G (G 17 ((G 19 264).toNatClampNeg))) = 0 then (1, (g_up (g_up G 16 14 (-1)) 19 268 1)) else (1, (g_up (g_up G 16 14 (-1)) 19 268 2))) else (if (f_Mo_kindOf G (G 17 ((G 19 264).toNatClampNeg))) ≤ 12 then (if (f_Mo_kindOf G (G 17 ((G 19 264).toNatClampNeg))) = 7 then (if (G 19 ((((G 17 ((G 19 264).toNatClampNeg)) >>> (24 &&& 31)) &&& 7).toNatClampNeg)) = 0 then (1, (g_up (g_up G 16 14 (-1)) 19 264 (((G 19 264) + 1) &&& 63))) else (1, (g_up (g_up G 16 14 (-1)) 19 264 (((G 19 264) + (((G 17 ((G 19 264).toNatClampNeg)) <<< (16 &&& 31)) >>> (16 &&& 31))) &&& 63)))) else (if (f_Mo_kindOf G (G 17 ((G 19 264).toNatClampNeg))) = 9 then (1, (g_up (g_up (g_up (g_up G 16 14 (-1)) 19 266 ((G 19 266) + 1)) 19 267 ((31 * (G 19 267)) + ((g_up (g_up G 16 14 (-1)) 19 266 ((G 19 266) + 1)) 19 ((((G 17 ((G 19 264).toNatClampNeg)) >>> (24 &&& 31)) &&& 7).toNatClampNeg)))) 19 264 (((G 19 264) + 1) &&& 63))) else (if (f_Mo_kindOf G (G 17 ((G 19 264).toNatClampNeg))) = 6 then (1, (g_up (g_up (g_up (g_up G 16 14 (-1)) 16 14 (8 + (((G 19 ((((G 17 ((G 19 264).toNatClampNeg)) >>> (20 &&& 31)) &&& 7).toNatClampNeg)) + (((G 17 ((G 19 264).toNatClampNeg)) <<< (16 &&& 31)) >>> (16 &&& 31))) &&& 255))) 19 ((8 + (((G 19 ((((G 17 ((G 19 264).toNatClampNeg)) >>> (20 &&& 31)) &&& 7).toNatClampNeg)) + (((G 17 ((G 19 264).toNatClampNeg)) <<< (16 &&& 31)) >>> (16 &&& 31))) &&& 255)).toNatClampNeg) (G 19 ((((G 17 ((G 19 264).toNatClampNeg)) >>> (24 &&& 31)) &&& 7).toNatClampNeg))) 19 264 (((G 19 264) + 1) &&& 63))) else (if (f_Mo_kindOf G (G 17 ((G 19 264).toNatClampNeg))) = 5 then (if (f_Mo_kindOf G (G 17 ((G 19 264).toNatClampNeg))) = 8 then (1, (g_up (g_up (g_up (g_up (g_up G 16 14 (-1)) 19 265 ((G 19 265) + 1)) 19 ((((G 17 ((G 19 264).toNatClampNeg)) >>> (24 &&& 31)) &&& 7).toNatClampNeg) (G 19 ((8 + (((G 19 ((((G 17 ((G 19 264).toNatClampNeg)) >>> (20 &&& 31)) &&& 7).toNatClampNeg)) + (((G 17 ((G 19 264).toNatClampNeg)) <<< (16 &&& 31)) >>> (16 &&& 31))) &&& 255)).toNatClampNeg))) 16 14 (((G 17 ((G 19 264).toNatClampNeg)) >>> (24 &&& 31)) &&& 7)) 19 264 (((G 19 264) + 1) &&& 63))) else (1, (g_up (g_up (g_up (g_up (g_up G 16 14 (-1)) 19 265 ((G 19 265) + 0)) 19 ((((G 17 ((G 19 264).toNatClampNeg)) >>> (24 &&& 31)) &&& 7).toNatClampNeg) (G 19 ((8 + (((G 19 ((((G 17 ((G 19 264).toNatClampNeg)) >>> (20 &&& 31)) &&& 7).toNatClampNeg)) + (((G 17 ((G 19 264).toNatClampNeg)) <<< (16 &&& 31)) >>> (16 &&& 31))) &&& 255)).toNatClampNeg))) 16 14 (((G 17 ((G 19 264).toNatClampNeg)) >>> (24 &&& 31)) &&& 7)) 19 264 (((G 19 264) + 1) &&& 63)))) else (if (f_Mo_kindOf G (G 17 ((G 19 264).toNatClampNeg))) = 8 then (if (f_Mo_kindOf G (G 17 ((G 19 264).toNatClampNeg))) = 8 then (1, (g_up (g_up (g_up (g_up (g_up G 16 14 (-1)) 19 265 ((G 19 265) + 1)) 19 ((((G 17 ((G 19 264).toNatClampNeg)) >>> (24 &&& 31)) &&& 7).toNatClampNeg) (G 18 ((G 19 265).toNatClampNeg))) 16 14 (((G 17 ((G 19 264).toNatClampNeg)) >>> (24 &&& 31)) &&& 7)) 19 264 (((G 19 264) + 1) &&& 63))) else (1, (g_up (g_up (g_up (g_up (g_up G 16 14 (-1)) 19 265 ((G 19 265) + 0)) 19 ((((G 17 ((G 19 264).toNatClampNeg)) >>> (24 &&& 31)) &&& 7).toNatClampNeg) (G 18 ((G 19 265).toNatClampNeg))) 16 14 (((G 17 ((G 19 264).toNatClampNeg)) >>> (24 &&& 31)) &&& 7)) 19 264 (((G 19 264) + 1) &&& 63)))) else (if (f_Mo_kindOf G (G 17 ((G 19 264).toNatClampNeg))) = 8 then (1, (g_up (g_up (g_up (g_up (g_up G 16 14 (-1)) 19 265 ((G 19 265) + 1)) 19 ((((G 17 ((G 19 264).toNatClampNeg)) >>> (24 &&& 31)) &&& 7).toNatClampNeg) (f_Mo_result (g_up G 16 14 (-1)) (f_Mo_kindOf G (G 17 ((G 19 264).toNatClampNeg))) (G 19 ((((G 17 ((G 19 264).toNatClampNeg)) >>> (20 &&& 31)) &&& 7).toNatClampNeg)) (G 19 ((((G 17 ((G 19 264).toNatClampNeg)) >>> (16 &&& 31)) &&& 7).toNatClampNeg)) (((G 17 ((G 19 264).toNatClampNeg)) <<< (16 &&& 31)) >>> (16 &&& 31)))) 16 14 (((G 17 ((G 19 264).toNatClampNeg)) >>> (24 &&& 31)) &&& 7)) 19 264 (((G 19 264) + 1) &&& 63))) else (1, (g_up (g_up (g_up (g_up (g_up G 16 14 (-1)) 19 265 ((G 19 265) + 0)) 19 ((((G 17 ((G 19 264).toNatClampNeg)) >>> (24 &&& 31)) &&& 7).toNatClampNeg) (f_Mo_result (g_up G 16 14 (-1)) (f_Mo_kindOf G (G 17 ((G 19 264).toNatClampNeg))) (G 19 ((((G 17 ((G 19 264).toNatClampNeg)) >>> (20 &&& 31)) &&& 7).toNatClampNeg)) (G 19 ((((G 17 ((G 19 264).toNatClampNeg)) >>> (16 &&& 31)) &&& 7).toNatClampNeg)) (((G 17 ((G 19 264).toNatClampNeg)) <<< (16 &&& 31)) >>> (16 &&& 31)))) 16 14 (((G 17 ((G 19 264).toNatClampNeg)) >>> (24 &&& 31)) &&& 7)) 19 264 (((G 19 264) + 1) &&& 63))))))))) else (if (f_Mo_kindOf G (G 17 ((G 19 264).toNatClampNeg))) = 0 then (1, (g_up (g_up G 16 14 (-1)) 19 268 1)) else (1, (g_up (g_up G 16 14 (-1)) 19 268 2))))) else (0, (g_up G 16 14 (-1)))) else (if (f_Mo_kindOf G (G 17 ((G 19 264).toNatClampNeg))) = 0 then (if (f_Mo_kindOf G (G 17 ((G 19 264).toNatClampNeg))) = 0 then (1, (g_up (g_up G 16 14 (-1)) 19 268 1)) else (1, (g_up (g_up G 16 14 (-1)) 19 268 2))) else (if (f_Mo_kindOf G (G 17 ((G 19 264).toNatClampNeg))) ≤ 12 then (if (f_Mo_kindOf G (G 17 ((G 19 264).toNatClampNeg))) = 7 then (if (G 19 ((((G 17 ((G 19 264).toNatClampNeg)) >>> (24 &&& 31)) &&& 7).toNatClampNeg)) = 0 then (1, (g_up (g_up G 16 14 (-1)) 19 264 (((G 19 264) + 1) &&& 63))) else (1, (g_up (g_up G 16 14 (-1)) 19 264 (((G 19 264) + (((G 17 ((G 19 264).toNatClampNeg)) <<< (16 &&& 31)) >>> (16 &&& 31))) &&& 63)))) else (if (f_Mo_kindOf G (G 17 ((G 19 264).toNatClampNeg))) = 9 then (1, (g_up (g_up (g_up (g_up G 16 14 (-1)) 19 266 ((G 19 266) + 1)) 19 267 ((31 * (G 19 267)) + ((g_up (g_up G 16 14 (-1)) 19 266 ((G 19 266) + 1)) 19 ((((G 17 ((G 19 264).toNatClampNeg)) >>> (24 &&& 31)) &&& 7).toNatClampNeg)))) 19 264 (((G 19 264) + 1) &&& 63))) else (if (f_Mo_kindOf G (G 17 ((G 19 264).toNatClampNeg))) = 6 then (1, (g_up (g_up (g_up (g_up G 16 14 (-1)) 16 14 (8 + (((G 19 ((((G 17 ((G 19 264).toNatClampNeg)) >>> (20 &&& 31)) &&& 7).toNatClampNeg)) + (((G 17 ((G 19 264).toNatClampNeg)) <<< (16 &&& 31)) >>> (16 &&& 31))) &&& 255))) 19 ((8 + (((G 19 ((((G 17 ((G 19 264).toNatClampNeg)) >>> (20 &&& 31)) &&& 7).toNatClampNeg)) + (((G 17 ((G 19 264).toNatClampNeg)) <<< (16 &&& 31)) >>> (16 &&& 31))) &&& 255)).toNatClampNeg) (G 19 ((((G 17 ((G 19 264).toNatClampNeg)) >>> (24 &&& 31)) &&& 7).toNatClampNeg))) 19 264 (((G 19 264) + 1) &&& 63))) else (if (f_Mo_kindOf G (G 17 ((G 19 264).toNatClampNeg))) = 5 then (if (f_Mo_kindOf G (G 17 ((G 19 264).toNatClampNeg))) = 8 then (1, (g_up (g_up (g_up (g_up (g_up G 16 14 (-1)) 19 265 ((G 19 265) + 1)) 19 ((((G 17 ((G 19 264).toNatClampNeg)) >>> (24 &&& 31)) &&& 7).toNatClampNeg) (G 19 ((8 + (((G 19 ((((G 17 ((G 19 264).toNatClampNeg)) >>> (20 &&& 31)) &&& 7).toNatClampNeg)) + (((G 17 ((G 19 264).toNatClampNeg)) <<< (16 &&& 31)) >>> (16 &&& 31))) &&& 255)).toNatClampNeg))) 16 14 (((G 17 ((G 19 264).toNatClampNeg)) >>> (24 &&& 31)) &&& 7)) 19 264 (((G 19 264) + 1) &&& 63))) else (1, (g_up (g_up (g_up (g_up (g_up G 16 14 (-1)) 19 265 ((G 19 265) + 0)) 19 ((((G 17 ((G 19 264).toNatClampNeg)) >>> (24 &&& 31)) &&& 7).toNatClampNeg) (G 19 ((8 + (((G 19 ((((G 17 ((G 19 264).toNatClampNeg)) >>> (20 &&& 31)) &&& 7).toNatClampNeg)) + (((G 17 ((G 19 264).toNatClampNeg)) <<< (16 &&& 31)) >>> (16 &&& 31))) &&& 255)).toNatClampNeg))) 16 14 (((G 17 ((G 19 264).toNatClampNeg)) >>> (24 &&& 31)) &&& 7)) 19 264 (((G 19 264) + 1) &&& 63)))) else (if (f_Mo_kindOf G (G 17 ((G 19 264).toNatClampNeg))) = 8 then (if (f_Mo_kindOf G (G 17 ((G 19 264).toNatClampNeg))) = 8 then (1, (g_up (g_up (g_up (g_up (g_up G 16 14 (-1)) 19 265 ((G 19 265) + 1)) 19 ((((G 17 ((G 19 264).toNatClampNeg)) >>> (24 &&& 31)) &&& 7).toNatClampNeg) (G 18 ((G 19 265).toNatClampNeg))) 16 14 (((G 17 ((G 19 264).toNatClampNeg)) >>> (24 &&& 31)) &&& 7)) 19 264 (((G 19 264) + 1) &&& 63))) else (1, (g_up (g_up (g_up (g_up (g_up G 16 14 (-1)) 19 265 ((G 19 265) + 0)) 19 ((((G 17 ((G 19 264).toNatClampNeg)) >>> (24 &&& 31)) &&& 7).toNatClampNeg) (G 18 ((G 19 265).toNatClampNeg))) 16 14 (((G 17 ((G 19 264).toNatClampNeg)) >>> (24 &&& 31)) &&& 7)) 19 264 (((G 19 264) + 1) &&& 63)))) else (if (f_Mo_kindOf G (G 17 ((G 19 264).toNatClampNeg))) = 8 then (1, (g_up (g_up (g_up (g_up (g_up G 16 14 (-1)) 19 265 ((G 19 265) + 1)) 19 ((((G 17 ((G 19 264).toNatClampNeg)) >>> (24 &&& 31)) &&& 7).toNatClampNeg) (f_Mo_result (g_up G 16 14 (-1)) (f_Mo_kindOf G (G 17 ((G 19 264).toNatClampNeg))) (G 19 ((((G 17 ((G 19 264).toNatClampNeg)) >>> (20 &&& 31)) &&& 7).toNatClampNeg)) (G 19 ((((G 17 ((G 19 264).toNatClampNeg)) >>> (16 &&& 31)) &&& 7).toNatClampNeg)) (((G 17 ((G 19 264).toNatClampNeg)) <<< (16 &&& 31)) >>> (16 &&& 31)))) 16 14 (((G 17 ((G 19 264).toNatClampNeg)) >>> (24 &&& 31)) &&& 7)) 19 264 (((G 19 264) + 1) &&& 63))) else (1, (g_up (g_up (g_up (g_up (g_up G 16 14 (-1)) 19 265 ((G 19 265) + 0)) 19 ((((G 17 ((G 19 264).toNatClampNeg)) >>> (24 &&& 31)) &&& 7).toNatClampNeg) (f_Mo_result (g_up G 16 14 (-1)) (f_Mo_kindOf G (G 17 ((G 19 264).toNatClampNeg))) (G 19 ((((G 17 ((G 19 264).toNatClampNeg)) >>> (20 &&& 31)) &&& 7).toNatClampNeg)) (G 19 ((((G 17 ((G 19 264).toNatClampNeg)) >>> (16 &&& 31)) &&& 7).toNatClampNeg)) (((G 17 ((G 19 264).toNatClampNeg)) <<< (16 &&& 31)) >>> (16 &&& 31)))) 16 14 (((G 17 ((G 19 264).toNatClampNeg)) >>> (24 &&& 31)) &&& 7)) 19 264 (((G 19 264) + 1) &&& 63))))))))) else (if (f_Mo_kindOf G (G 17 ((G 19 264).toNatClampNeg))) = 0 then (1, (g_up (g_up G 16 14 (-1)) 19 268 1)) else (1, (g_up (g_up G 16 14 (-1)) 19 268 2))))))
def ok_Mo_advance_19 (G : gT) (p2 : Int32) : Prop := (vp_in (G 19 264) 64 ∧ (((f_Mo_kindOf G (G 17 ((G 19 264).toNatClampNeg))) = 8 → (((G 19 265) < p2 → (((f_Mo_kindOf G (G 17 ((G 19 264).toNatClampNeg))) = 0 → True) ∧ (¬ (f_Mo_kindOf G (G 17 ((G 19 264).toNatClampNeg))) = 0 → (((f_Mo_kindOf G (G 17 ((G 19 264).toNatClampNeg))) ≤ 12 → (((f_Mo_kindOf G (G 17 ((G 19 264).toNatClampNeg))) = 7 → (vp_in (((G 17 ((G 19 264).toNatClampNeg)) >>> (24 &&& 31)) &&& 7) 269 ∧ True)) ∧ (¬ (f_Mo_kindOf G (G 17 ((G 19 264).toNatClampNeg))) = 7 → (((f_Mo_kindOf G (G 17 ((G 19 264).toNatClampNeg))) = 9 → (vp_in (((G 17 ((G 19 264).toNatClampNeg)) >>> (24 &&& 31)) &&& 7) 269 ∧ True)) ∧ (¬ (f_Mo_kindOf G (G 17 ((G 19 264).toNatClampNeg))) = 9 → (((f_Mo_kindOf G (G 17 ((G 19 264).toNatClampNeg))) = 6 → (vp_in (((G 17 ((G 19 264).toNatClampNeg)) >>> (20 &&& 31)) &&& 7) 269 ∧ (vp_in (((G 17 ((G 19 264).toNatClampNeg)) >>> (24 &&& 31)) &&& 7) 269 ∧ (vp_in (8 + (((G 19 ((((G 17 ((G 19 264).toNatClampNeg)) >>> (20 &&& 31)) &&& 7).toNatClampNeg)) + (((G 17 ((G 19 264).toNatClampNeg)) <<< (16 &&& 31)) >>> (16 &&& 31))) &&& 255)) 269 ∧ True)))) ∧ (¬ (f_Mo_kindOf G (G 17 ((G 19 264).toNatClampNeg))) = 6 → (((f_Mo_kindOf G (G 17 ((G 19 264).toNatClampNeg))) = 5 → (vp_in (((G 17 ((G 19 264).toNatClampNeg)) >>> (20 &&& 31)) &&& 7) 269 ∧ (vp_in (8 + (((G 19 ((((G 17 ((G 19 264).toNatClampNeg)) >>> (20 &&& 31)) &&& 7).toNatClampNeg)) + (((G 17 ((G 19 264).toNatClampNeg)) <<< (16 &&& 31)) >>> (16 &&& 31))) &&& 255)) 269 ∧ (((f_Mo_kindOf G (G 17 ((G 19 264).toNatClampNeg))) = 8 → (vp_in (((G 17 ((G 19 264).toNatClampNeg)) >>> (24 &&& 31)) &&& 7) 269 ∧ True)) ∧ (¬ (f_Mo_kindOf G (G 17 ((G 19 264).toNatClampNeg))) = 8 → (vp_in (((G 17 ((G 19 264).toNatClampNeg)) >>> (24 &&& 31)) &&& 7) 269 ∧ True)))))) ∧ (¬ (f_Mo_kindOf G (G 17 ((G 19 264).toNatClampNeg))) = 5 → (((f_Mo_kindOf G (G 17 ((G 19 264).toNatClampNeg))) = 8 → (vp_in (G 19 265) 200 ∧ (((f_Mo_kindOf G (G 17 ((G 19 264).toNatClampNeg))) = 8 → (vp_in (((G 17 ((G 19 264).toNatClampNeg)) >>> (24 &&& 31)) &&& 7) 269 ∧ True)) ∧ (¬ (f_Mo_kindOf G (G 17 ((G 19 264).toNatClampNeg))) = 8 → (vp_in (((G 17 ((G 19 264).toNatClampNeg)) >>> (24 &&& 31)) &&& 7) 269 ∧ True))))) ∧ (¬ (f_Mo_kindOf G (G 17 ((G 19 264).toNatClampNeg))) = 8 → (vp_in (((G 17 ((G 19 264).toNatClampNeg)) >>> (20 &&& 31)) &&& 7) 269 ∧ (vp_in (((G 17 ((G 19 264).toNatClampNeg)) >>> (16 &&& 31)) &&& 7) 269 ∧ (((f_Mo_kindOf G (G 17 ((G 19 264).toNatClampNeg))) = 8 → (vp_in (((G 17 ((G 19 264).toNatClampNeg)) >>> (24 &&& 31)) &&& 7) 269 ∧ True)) ∧ (¬ (f_Mo_kindOf G (G 17 ((G 19 264).toNatClampNeg))) = 8 → (vp_in (((G 17 ((G 19 264).toNatClampNeg)) >>> (24 &&& 31)) &&& 7) 269 ∧ True)))))))))))))))) ∧ (¬ (f_Mo_kindOf G (G 17 ((G 19 264).toNatClampNeg))) ≤ 12 → True))))) ∧ (¬ (G 19 265) < p2 → True))) ∧ (¬ (f_Mo_kindOf G (G 17 ((G 19 264).toNatClampNeg))) = 8 → (((f_Mo_kindOf G (G 17 ((G 19 264).toNatClampNeg))) = 0 → True) ∧ (¬ (f_Mo_kindOf G (G 17 ((G 19 264).toNatClampNeg))) = 0 → (((f_Mo_kindOf G (G 17 ((G 19 264).toNatClampNeg))) ≤ 12 → (((f_Mo_kindOf G (G 17 ((G 19 264).toNatClampNeg))) = 7 → (vp_in (((G 17 ((G 19 264).toNatClampNeg)) >>> (24 &&& 31)) &&& 7) 269 ∧ True)) ∧ (¬ (f_Mo_kindOf G (G 17 ((G 19 264).toNatClampNeg))) = 7 → (((f_Mo_kindOf G (G 17 ((G 19 264).toNatClampNeg))) = 9 → (vp_in (((G 17 ((G 19 264).toNatClampNeg)) >>> (24 &&& 31)) &&& 7) 269 ∧ True)) ∧ (¬ (f_Mo_kindOf G (G 17 ((G 19 264).toNatClampNeg))) = 9 → (((f_Mo_kindOf G (G 17 ((G 19 264).toNatClampNeg))) = 6 → (vp_in (((G 17 ((G 19 264).toNatClampNeg)) >>> (20 &&& 31)) &&& 7) 269 ∧ (vp_in (((G 17 ((G 19 264).toNatClampNeg)) >>> (24 &&& 31)) &&& 7) 269 ∧ (vp_in (8 + (((G 19 ((((G 17 ((G 19 264).toNatClampNeg)) >>> (20 &&& 31)) &&& 7).toNatClampNeg)) + (((G 17 ((G 19 264).toNatClampNeg)) <<< (16 &&& 31)) >>> (16 &&& 31))) &&& 255)) 269 ∧ True)))) ∧ (¬ (f_Mo_kindOf G (G 17 ((G 19 264).toNatClampNeg))) = 6 → (((f_Mo_kindOf G (G 17 ((G 19 264).toNatClampNeg))) = 5 → (vp_in (((G 17 ((G 19 264).toNatClampNeg)) >>> (20 &&& 31)) &&& 7) 269 ∧ (vp_in (8 + (((G 19 ((((G 17 ((G 19 264).toNatClampNeg)) >>> (20 &&& 31)) &&& 7).toNatClampNeg)) + (((G 17 ((G 19 264).toNatClampNeg)) <<< (16 &&& 31)) >>> (16 &&& 31))) &&& 255)) 269 ∧ (((f_Mo_kindOf G (G 17 ((G 19 264).toNatClampNeg))) = 8 → (vp_in (((G 17 ((G 19 264).toNatClampNeg)) >>> (24 &&& 31)) &&& 7) 269 ∧ True)) ∧ (¬ (f_Mo_kindOf G (G 17 ((G 19 264).toNatClampNeg))) = 8 → (vp_in (((G 17 ((G 19 264).toNatClampNeg)) >>> (24 &&& 31)) &&& 7) 269 ∧ True)))))) ∧ (¬ (f_Mo_kindOf G (G 17 ((G 19 264).toNatClampNeg))) = 5 → (((f_Mo_kindOf G (G 17 ((G 19 264).toNatClampNeg))) = 8 → (vp_in (G 19 265) 200 ∧ (((f_Mo_kindOf G (G 17 ((G 19 264).toNatClampNeg))) = 8 → (vp_in (((G 17 ((G 19 264).toNatClampNeg)) >>> (24 &&& 31)) &&& 7) 269 ∧ True)) ∧ (¬ (f_Mo_kindOf G (G 17 ((G 19 264).toNatClampNeg))) = 8 → (vp_in (((G 17 ((G 19 264).toNatClampNeg)) >>> (24 &&& 31)) &&& 7) 269 ∧ True))))) ∧ (¬ (f_Mo_kindOf G (G 17 ((G 19 264).toNatClampNeg))) = 8 → (vp_in (((G 17 ((G 19 264).toNatClampNeg)) >>> (20 &&& 31)) &&& 7) 269 ∧ (vp_in (((G 17 ((G 19 264).toNatClampNeg)) >>> (16 &&& 31)) &&& 7) 269 ∧ (((f_Mo_kindOf G (G 17 ((G 19 264).toNatClampNeg))) = 8 → (vp_in (((G 17 ((G 19 264).toNatClampNeg)) >>> (24 &&& 31)) &&& 7) 269 ∧ True)) ∧ (¬ (f_Mo_kindOf G (G 17 ((G 19 264).toNatClampNeg))) = 8 → (vp_in (((G 17 ((G 19 264).toNatClampNeg)) >>> (24 &&& 31)) &&& 7) 269 ∧ True)))))))))))))))) ∧ (¬ (f_Mo_kindOf G (G 17 ((G 19 264).toNatClampNeg))) ≤ 12 → True)))))))
set_option maxHeartbeats 4000000 in
set_option maxRecDepth 100000 in
theorem c_Mo_advance_19 (l : Launch) (G : gT) (p2 : Int32) (O : Int64) (hok : ok_Mo_advance_19 G p2) : gMet l y_Mo_advance w_Mo_advance rm_Mo_advance_19 (fun ad => [.ref (ad 16), .ref (ad 19), .int p2]) G O (.inl (some (.int (f_Mo_advance_19 G p2).1))) ((f_Mo_advance_19 G p2).2) O := by
  refine g_body (by decide) (gCode_of _ _ _ _) (fun ad => by simp [lg_sl, Value.category]) ?_
  intro p e s0 s m args below meth c D cI cL ad hC hr hlk htb hB ls hl
  have hC : CallFix p m c b_Mo_advance 11 s args gtb R_Mo := hC
  have hl : lv_has ls 11 [(0, .ref (ad 16)), (1, .ref (ad 19)), (2, .int p2)] := hl
  have hx := hC.1
  have hb := hC.2.1
  have hf : f_Mo_advance_19 G p2 = (if (f_Mo_kindOf G (G 17 ((G 19 264).toNatClampNeg))) = 8 then (if (G 19 265) < p2 then (if (f_Mo_kindOf G (G 17 ((G 19 264).toNatClampNeg))) = 0 then (if (f_Mo_kindOf G (G 17 ((G 19 264).toNatClampNeg))) = 0 then (1, (g_up (g_up G 16 14 (-1)) 19 268 1)) else (1, (g_up (g_up G 16 14 (-1)) 19 268 2))) else (if (f_Mo_kindOf G (G 17 ((G 19 264).toNatClampNeg))) ≤ 12 then (if (f_Mo_kindOf G (G 17 ((G 19 264).toNatClampNeg))) = 7 then (if (G 19 ((((G 17 ((G 19 264).toNatClampNeg)) >>> (24 &&& 31)) &&& 7).toNatClampNeg)) = 0 then (1, (g_up (g_up G 16 14 (-1)) 19 264 (((G 19 264) + 1) &&& 63))) else (1, (g_up (g_up G 16 14 (-1)) 19 264 (((G 19 264) + (((G 17 ((G 19 264).toNatClampNeg)) <<< (16 &&& 31)) >>> (16 &&& 31))) &&& 63)))) else (if (f_Mo_kindOf G (G 17 ((G 19 264).toNatClampNeg))) = 9 then (1, (g_up (g_up (g_up (g_up G 16 14 (-1)) 19 266 ((G 19 266) + 1)) 19 267 ((31 * (G 19 267)) + ((g_up (g_up G 16 14 (-1)) 19 266 ((G 19 266) + 1)) 19 ((((G 17 ((G 19 264).toNatClampNeg)) >>> (24 &&& 31)) &&& 7).toNatClampNeg)))) 19 264 (((G 19 264) + 1) &&& 63))) else (if (f_Mo_kindOf G (G 17 ((G 19 264).toNatClampNeg))) = 6 then (1, (g_up (g_up (g_up (g_up G 16 14 (-1)) 16 14 (8 + (((G 19 ((((G 17 ((G 19 264).toNatClampNeg)) >>> (20 &&& 31)) &&& 7).toNatClampNeg)) + (((G 17 ((G 19 264).toNatClampNeg)) <<< (16 &&& 31)) >>> (16 &&& 31))) &&& 255))) 19 ((8 + (((G 19 ((((G 17 ((G 19 264).toNatClampNeg)) >>> (20 &&& 31)) &&& 7).toNatClampNeg)) + (((G 17 ((G 19 264).toNatClampNeg)) <<< (16 &&& 31)) >>> (16 &&& 31))) &&& 255)).toNatClampNeg) (G 19 ((((G 17 ((G 19 264).toNatClampNeg)) >>> (24 &&& 31)) &&& 7).toNatClampNeg))) 19 264 (((G 19 264) + 1) &&& 63))) else (if (f_Mo_kindOf G (G 17 ((G 19 264).toNatClampNeg))) = 5 then (if (f_Mo_kindOf G (G 17 ((G 19 264).toNatClampNeg))) = 8 then (1, (g_up (g_up (g_up (g_up (g_up G 16 14 (-1)) 19 265 ((G 19 265) + 1)) 19 ((((G 17 ((G 19 264).toNatClampNeg)) >>> (24 &&& 31)) &&& 7).toNatClampNeg) (G 19 ((8 + (((G 19 ((((G 17 ((G 19 264).toNatClampNeg)) >>> (20 &&& 31)) &&& 7).toNatClampNeg)) + (((G 17 ((G 19 264).toNatClampNeg)) <<< (16 &&& 31)) >>> (16 &&& 31))) &&& 255)).toNatClampNeg))) 16 14 (((G 17 ((G 19 264).toNatClampNeg)) >>> (24 &&& 31)) &&& 7)) 19 264 (((G 19 264) + 1) &&& 63))) else (1, (g_up (g_up (g_up (g_up (g_up G 16 14 (-1)) 19 265 ((G 19 265) + 0)) 19 ((((G 17 ((G 19 264).toNatClampNeg)) >>> (24 &&& 31)) &&& 7).toNatClampNeg) (G 19 ((8 + (((G 19 ((((G 17 ((G 19 264).toNatClampNeg)) >>> (20 &&& 31)) &&& 7).toNatClampNeg)) + (((G 17 ((G 19 264).toNatClampNeg)) <<< (16 &&& 31)) >>> (16 &&& 31))) &&& 255)).toNatClampNeg))) 16 14 (((G 17 ((G 19 264).toNatClampNeg)) >>> (24 &&& 31)) &&& 7)) 19 264 (((G 19 264) + 1) &&& 63)))) else (if (f_Mo_kindOf G (G 17 ((G 19 264).toNatClampNeg))) = 8 then (if (f_Mo_kindOf G (G 17 ((G 19 264).toNatClampNeg))) = 8 then (1, (g_up (g_up (g_up (g_up (g_up G 16 14 (-1)) 19 265 ((G 19 265) + 1)) 19 ((((G 17 ((G 19 264).toNatClampNeg)) >>> (24 &&& 31)) &&& 7).toNatClampNeg) (G 18 ((G 19 265).toNatClampNeg))) 16 14 (((G 17 ((G 19 264).toNatClampNeg)) >>> (24 &&& 31)) &&& 7)) 19 264 (((G 19 264) + 1) &&& 63))) else (1, (g_up (g_up (g_up (g_up (g_up G 16 14 (-1)) 19 265 ((G 19 265) + 0)) 19 ((((G 17 ((G 19 264).toNatClampNeg)) >>> (24 &&& 31)) &&& 7).toNatClampNeg) (G 18 ((G 19 265).toNatClampNeg))) 16 14 (((G 17 ((G 19 264).toNatClampNeg)) >>> (24 &&& 31)) &&& 7)) 19 264 (((G 19 264) + 1) &&& 63)))) else (if (f_Mo_kindOf G (G 17 ((G 19 264).toNatClampNeg))) = 8 then (1, (g_up (g_up (g_up (g_up (g_up G 16 14 (-1)) 19 265 ((G 19 265) + 1)) 19 ((((G 17 ((G 19 264).toNatClampNeg)) >>> (24 &&& 31)) &&& 7).toNatClampNeg) (f_Mo_result (g_up G 16 14 (-1)) (f_Mo_kindOf G (G 17 ((G 19 264).toNatClampNeg))) (G 19 ((((G 17 ((G 19 264).toNatClampNeg)) >>> (20 &&& 31)) &&& 7).toNatClampNeg)) (G 19 ((((G 17 ((G 19 264).toNatClampNeg)) >>> (16 &&& 31)) &&& 7).toNatClampNeg)) (((G 17 ((G 19 264).toNatClampNeg)) <<< (16 &&& 31)) >>> (16 &&& 31)))) 16 14 (((G 17 ((G 19 264).toNatClampNeg)) >>> (24 &&& 31)) &&& 7)) 19 264 (((G 19 264) + 1) &&& 63))) else (1, (g_up (g_up (g_up (g_up (g_up G 16 14 (-1)) 19 265 ((G 19 265) + 0)) 19 ((((G 17 ((G 19 264).toNatClampNeg)) >>> (24 &&& 31)) &&& 7).toNatClampNeg) (f_Mo_result (g_up G 16 14 (-1)) (f_Mo_kindOf G (G 17 ((G 19 264).toNatClampNeg))) (G 19 ((((G 17 ((G 19 264).toNatClampNeg)) >>> (20 &&& 31)) &&& 7).toNatClampNeg)) (G 19 ((((G 17 ((G 19 264).toNatClampNeg)) >>> (16 &&& 31)) &&& 7).toNatClampNeg)) (((G 17 ((G 19 264).toNatClampNeg)) <<< (16 &&& 31)) >>> (16 &&& 31)))) 16 14 (((G 17 ((G 19 264).toNatClampNeg)) >>> (24 &&& 31)) &&& 7)) 19 264 (((G 19 264) + 1) &&& 63))))))))) else (if (f_Mo_kindOf G (G 17 ((G 19 264).toNatClampNeg))) = 0 then (1, (g_up (g_up G 16 14 (-1)) 19 268 1)) else (1, (g_up (g_up G 16 14 (-1)) 19 268 2))))) else (0, (g_up G 16 14 (-1)))) else (if (f_Mo_kindOf G (G 17 ((G 19 264).toNatClampNeg))) = 0 then (if (f_Mo_kindOf G (G 17 ((G 19 264).toNatClampNeg))) = 0 then (1, (g_up (g_up G 16 14 (-1)) 19 268 1)) else (1, (g_up (g_up G 16 14 (-1)) 19 268 2))) else (if (f_Mo_kindOf G (G 17 ((G 19 264).toNatClampNeg))) ≤ 12 then (if (f_Mo_kindOf G (G 17 ((G 19 264).toNatClampNeg))) = 7 then (if (G 19 ((((G 17 ((G 19 264).toNatClampNeg)) >>> (24 &&& 31)) &&& 7).toNatClampNeg)) = 0 then (1, (g_up (g_up G 16 14 (-1)) 19 264 (((G 19 264) + 1) &&& 63))) else (1, (g_up (g_up G 16 14 (-1)) 19 264 (((G 19 264) + (((G 17 ((G 19 264).toNatClampNeg)) <<< (16 &&& 31)) >>> (16 &&& 31))) &&& 63)))) else (if (f_Mo_kindOf G (G 17 ((G 19 264).toNatClampNeg))) = 9 then (1, (g_up (g_up (g_up (g_up G 16 14 (-1)) 19 266 ((G 19 266) + 1)) 19 267 ((31 * (G 19 267)) + ((g_up (g_up G 16 14 (-1)) 19 266 ((G 19 266) + 1)) 19 ((((G 17 ((G 19 264).toNatClampNeg)) >>> (24 &&& 31)) &&& 7).toNatClampNeg)))) 19 264 (((G 19 264) + 1) &&& 63))) else (if (f_Mo_kindOf G (G 17 ((G 19 264).toNatClampNeg))) = 6 then (1, (g_up (g_up (g_up (g_up G 16 14 (-1)) 16 14 (8 + (((G 19 ((((G 17 ((G 19 264).toNatClampNeg)) >>> (20 &&& 31)) &&& 7).toNatClampNeg)) + (((G 17 ((G 19 264).toNatClampNeg)) <<< (16 &&& 31)) >>> (16 &&& 31))) &&& 255))) 19 ((8 + (((G 19 ((((G 17 ((G 19 264).toNatClampNeg)) >>> (20 &&& 31)) &&& 7).toNatClampNeg)) + (((G 17 ((G 19 264).toNatClampNeg)) <<< (16 &&& 31)) >>> (16 &&& 31))) &&& 255)).toNatClampNeg) (G 19 ((((G 17 ((G 19 264).toNatClampNeg)) >>> (24 &&& 31)) &&& 7).toNatClampNeg))) 19 264 (((G 19 264) + 1) &&& 63))) else (if (f_Mo_kindOf G (G 17 ((G 19 264).toNatClampNeg))) = 5 then (if (f_Mo_kindOf G (G 17 ((G 19 264).toNatClampNeg))) = 8 then (1, (g_up (g_up (g_up (g_up (g_up G 16 14 (-1)) 19 265 ((G 19 265) + 1)) 19 ((((G 17 ((G 19 264).toNatClampNeg)) >>> (24 &&& 31)) &&& 7).toNatClampNeg) (G 19 ((8 + (((G 19 ((((G 17 ((G 19 264).toNatClampNeg)) >>> (20 &&& 31)) &&& 7).toNatClampNeg)) + (((G 17 ((G 19 264).toNatClampNeg)) <<< (16 &&& 31)) >>> (16 &&& 31))) &&& 255)).toNatClampNeg))) 16 14 (((G 17 ((G 19 264).toNatClampNeg)) >>> (24 &&& 31)) &&& 7)) 19 264 (((G 19 264) + 1) &&& 63))) else (1, (g_up (g_up (g_up (g_up (g_up G 16 14 (-1)) 19 265 ((G 19 265) + 0)) 19 ((((G 17 ((G 19 264).toNatClampNeg)) >>> (24 &&& 31)) &&& 7).toNatClampNeg) (G 19 ((8 + (((G 19 ((((G 17 ((G 19 264).toNatClampNeg)) >>> (20 &&& 31)) &&& 7).toNatClampNeg)) + (((G 17 ((G 19 264).toNatClampNeg)) <<< (16 &&& 31)) >>> (16 &&& 31))) &&& 255)).toNatClampNeg))) 16 14 (((G 17 ((G 19 264).toNatClampNeg)) >>> (24 &&& 31)) &&& 7)) 19 264 (((G 19 264) + 1) &&& 63)))) else (if (f_Mo_kindOf G (G 17 ((G 19 264).toNatClampNeg))) = 8 then (if (f_Mo_kindOf G (G 17 ((G 19 264).toNatClampNeg))) = 8 then (1, (g_up (g_up (g_up (g_up (g_up G 16 14 (-1)) 19 265 ((G 19 265) + 1)) 19 ((((G 17 ((G 19 264).toNatClampNeg)) >>> (24 &&& 31)) &&& 7).toNatClampNeg) (G 18 ((G 19 265).toNatClampNeg))) 16 14 (((G 17 ((G 19 264).toNatClampNeg)) >>> (24 &&& 31)) &&& 7)) 19 264 (((G 19 264) + 1) &&& 63))) else (1, (g_up (g_up (g_up (g_up (g_up G 16 14 (-1)) 19 265 ((G 19 265) + 0)) 19 ((((G 17 ((G 19 264).toNatClampNeg)) >>> (24 &&& 31)) &&& 7).toNatClampNeg) (G 18 ((G 19 265).toNatClampNeg))) 16 14 (((G 17 ((G 19 264).toNatClampNeg)) >>> (24 &&& 31)) &&& 7)) 19 264 (((G 19 264) + 1) &&& 63)))) else (if (f_Mo_kindOf G (G 17 ((G 19 264).toNatClampNeg))) = 8 then (1, (g_up (g_up (g_up (g_up (g_up G 16 14 (-1)) 19 265 ((G 19 265) + 1)) 19 ((((G 17 ((G 19 264).toNatClampNeg)) >>> (24 &&& 31)) &&& 7).toNatClampNeg) (f_Mo_result (g_up G 16 14 (-1)) (f_Mo_kindOf G (G 17 ((G 19 264).toNatClampNeg))) (G 19 ((((G 17 ((G 19 264).toNatClampNeg)) >>> (20 &&& 31)) &&& 7).toNatClampNeg)) (G 19 ((((G 17 ((G 19 264).toNatClampNeg)) >>> (16 &&& 31)) &&& 7).toNatClampNeg)) (((G 17 ((G 19 264).toNatClampNeg)) <<< (16 &&& 31)) >>> (16 &&& 31)))) 16 14 (((G 17 ((G 19 264).toNatClampNeg)) >>> (24 &&& 31)) &&& 7)) 19 264 (((G 19 264) + 1) &&& 63))) else (1, (g_up (g_up (g_up (g_up (g_up G 16 14 (-1)) 19 265 ((G 19 265) + 0)) 19 ((((G 17 ((G 19 264).toNatClampNeg)) >>> (24 &&& 31)) &&& 7).toNatClampNeg) (f_Mo_result (g_up G 16 14 (-1)) (f_Mo_kindOf G (G 17 ((G 19 264).toNatClampNeg))) (G 19 ((((G 17 ((G 19 264).toNatClampNeg)) >>> (20 &&& 31)) &&& 7).toNatClampNeg)) (G 19 ((((G 17 ((G 19 264).toNatClampNeg)) >>> (16 &&& 31)) &&& 7).toNatClampNeg)) (((G 17 ((G 19 264).toNatClampNeg)) <<< (16 &&& 31)) >>> (16 &&& 31)))) 16 14 (((G 17 ((G 19 264).toNatClampNeg)) >>> (24 &&& 31)) &&& 7)) 19 264 (((G 19 264) + 1) &&& 63))))))))) else (if (f_Mo_kindOf G (G 17 ((G 19 264).toNatClampNeg))) = 0 then (1, (g_up (g_up G 16 14 (-1)) 19 268 1)) else (1, (g_up (g_up G 16 14 (-1)) 19 268 2)))))) := rfl
  have hok : (vp_in (G 19 264) 64 ∧ (((f_Mo_kindOf G (G 17 ((G 19 264).toNatClampNeg))) = 8 → (((G 19 265) < p2 → (((f_Mo_kindOf G (G 17 ((G 19 264).toNatClampNeg))) = 0 → True) ∧ (¬ (f_Mo_kindOf G (G 17 ((G 19 264).toNatClampNeg))) = 0 → (((f_Mo_kindOf G (G 17 ((G 19 264).toNatClampNeg))) ≤ 12 → (((f_Mo_kindOf G (G 17 ((G 19 264).toNatClampNeg))) = 7 → (vp_in (((G 17 ((G 19 264).toNatClampNeg)) >>> (24 &&& 31)) &&& 7) 269 ∧ True)) ∧ (¬ (f_Mo_kindOf G (G 17 ((G 19 264).toNatClampNeg))) = 7 → (((f_Mo_kindOf G (G 17 ((G 19 264).toNatClampNeg))) = 9 → (vp_in (((G 17 ((G 19 264).toNatClampNeg)) >>> (24 &&& 31)) &&& 7) 269 ∧ True)) ∧ (¬ (f_Mo_kindOf G (G 17 ((G 19 264).toNatClampNeg))) = 9 → (((f_Mo_kindOf G (G 17 ((G 19 264).toNatClampNeg))) = 6 → (vp_in (((G 17 ((G 19 264).toNatClampNeg)) >>> (20 &&& 31)) &&& 7) 269 ∧ (vp_in (((G 17 ((G 19 264).toNatClampNeg)) >>> (24 &&& 31)) &&& 7) 269 ∧ (vp_in (8 + (((G 19 ((((G 17 ((G 19 264).toNatClampNeg)) >>> (20 &&& 31)) &&& 7).toNatClampNeg)) + (((G 17 ((G 19 264).toNatClampNeg)) <<< (16 &&& 31)) >>> (16 &&& 31))) &&& 255)) 269 ∧ True)))) ∧ (¬ (f_Mo_kindOf G (G 17 ((G 19 264).toNatClampNeg))) = 6 → (((f_Mo_kindOf G (G 17 ((G 19 264).toNatClampNeg))) = 5 → (vp_in (((G 17 ((G 19 264).toNatClampNeg)) >>> (20 &&& 31)) &&& 7) 269 ∧ (vp_in (8 + (((G 19 ((((G 17 ((G 19 264).toNatClampNeg)) >>> (20 &&& 31)) &&& 7).toNatClampNeg)) + (((G 17 ((G 19 264).toNatClampNeg)) <<< (16 &&& 31)) >>> (16 &&& 31))) &&& 255)) 269 ∧ (((f_Mo_kindOf G (G 17 ((G 19 264).toNatClampNeg))) = 8 → (vp_in (((G 17 ((G 19 264).toNatClampNeg)) >>> (24 &&& 31)) &&& 7) 269 ∧ True)) ∧ (¬ (f_Mo_kindOf G (G 17 ((G 19 264).toNatClampNeg))) = 8 → (vp_in (((G 17 ((G 19 264).toNatClampNeg)) >>> (24 &&& 31)) &&& 7) 269 ∧ True)))))) ∧ (¬ (f_Mo_kindOf G (G 17 ((G 19 264).toNatClampNeg))) = 5 → (((f_Mo_kindOf G (G 17 ((G 19 264).toNatClampNeg))) = 8 → (vp_in (G 19 265) 200 ∧ (((f_Mo_kindOf G (G 17 ((G 19 264).toNatClampNeg))) = 8 → (vp_in (((G 17 ((G 19 264).toNatClampNeg)) >>> (24 &&& 31)) &&& 7) 269 ∧ True)) ∧ (¬ (f_Mo_kindOf G (G 17 ((G 19 264).toNatClampNeg))) = 8 → (vp_in (((G 17 ((G 19 264).toNatClampNeg)) >>> (24 &&& 31)) &&& 7) 269 ∧ True))))) ∧ (¬ (f_Mo_kindOf G (G 17 ((G 19 264).toNatClampNeg))) = 8 → (vp_in (((G 17 ((G 19 264).toNatClampNeg)) >>> (20 &&& 31)) &&& 7) 269 ∧ (vp_in (((G 17 ((G 19 264).toNatClampNeg)) >>> (16 &&& 31)) &&& 7) 269 ∧ (((f_Mo_kindOf G (G 17 ((G 19 264).toNatClampNeg))) = 8 → (vp_in (((G 17 ((G 19 264).toNatClampNeg)) >>> (24 &&& 31)) &&& 7) 269 ∧ True)) ∧ (¬ (f_Mo_kindOf G (G 17 ((G 19 264).toNatClampNeg))) = 8 → (vp_in (((G 17 ((G 19 264).toNatClampNeg)) >>> (24 &&& 31)) &&& 7) 269 ∧ True)))))))))))))))) ∧ (¬ (f_Mo_kindOf G (G 17 ((G 19 264).toNatClampNeg))) ≤ 12 → True))))) ∧ (¬ (G 19 265) < p2 → True))) ∧ (¬ (f_Mo_kindOf G (G 17 ((G 19 264).toNatClampNeg))) = 8 → (((f_Mo_kindOf G (G 17 ((G 19 264).toNatClampNeg))) = 0 → True) ∧ (¬ (f_Mo_kindOf G (G 17 ((G 19 264).toNatClampNeg))) = 0 → (((f_Mo_kindOf G (G 17 ((G 19 264).toNatClampNeg))) ≤ 12 → (((f_Mo_kindOf G (G 17 ((G 19 264).toNatClampNeg))) = 7 → (vp_in (((G 17 ((G 19 264).toNatClampNeg)) >>> (24 &&& 31)) &&& 7) 269 ∧ True)) ∧ (¬ (f_Mo_kindOf G (G 17 ((G 19 264).toNatClampNeg))) = 7 → (((f_Mo_kindOf G (G 17 ((G 19 264).toNatClampNeg))) = 9 → (vp_in (((G 17 ((G 19 264).toNatClampNeg)) >>> (24 &&& 31)) &&& 7) 269 ∧ True)) ∧ (¬ (f_Mo_kindOf G (G 17 ((G 19 264).toNatClampNeg))) = 9 → (((f_Mo_kindOf G (G 17 ((G 19 264).toNatClampNeg))) = 6 → (vp_in (((G 17 ((G 19 264).toNatClampNeg)) >>> (20 &&& 31)) &&& 7) 269 ∧ (vp_in (((G 17 ((G 19 264).toNatClampNeg)) >>> (24 &&& 31)) &&& 7) 269 ∧ (vp_in (8 + (((G 19 ((((G 17 ((G 19 264).toNatClampNeg)) >>> (20 &&& 31)) &&& 7).toNatClampNeg)) + (((G 17 ((G 19 264).toNatClampNeg)) <<< (16 &&& 31)) >>> (16 &&& 31))) &&& 255)) 269 ∧ True)))) ∧ (¬ (f_Mo_kindOf G (G 17 ((G 19 264).toNatClampNeg))) = 6 → (((f_Mo_kindOf G (G 17 ((G 19 264).toNatClampNeg))) = 5 → (vp_in (((G 17 ((G 19 264).toNatClampNeg)) >>> (20 &&& 31)) &&& 7) 269 ∧ (vp_in (8 + (((G 19 ((((G 17 ((G 19 264).toNatClampNeg)) >>> (20 &&& 31)) &&& 7).toNatClampNeg)) + (((G 17 ((G 19 264).toNatClampNeg)) <<< (16 &&& 31)) >>> (16 &&& 31))) &&& 255)) 269 ∧ (((f_Mo_kindOf G (G 17 ((G 19 264).toNatClampNeg))) = 8 → (vp_in (((G 17 ((G 19 264).toNatClampNeg)) >>> (24 &&& 31)) &&& 7) 269 ∧ True)) ∧ (¬ (f_Mo_kindOf G (G 17 ((G 19 264).toNatClampNeg))) = 8 → (vp_in (((G 17 ((G 19 264).toNatClampNeg)) >>> (24 &&& 31)) &&& 7) 269 ∧ True)))))) ∧ (¬ (f_Mo_kindOf G (G 17 ((G 19 264).toNatClampNeg))) = 5 → (((f_Mo_kindOf G (G 17 ((G 19 264).toNatClampNeg))) = 8 → (vp_in (G 19 265) 200 ∧ (((f_Mo_kindOf G (G 17 ((G 19 264).toNatClampNeg))) = 8 → (vp_in (((G 17 ((G 19 264).toNatClampNeg)) >>> (24 &&& 31)) &&& 7) 269 ∧ True)) ∧ (¬ (f_Mo_kindOf G (G 17 ((G 19 264).toNatClampNeg))) = 8 → (vp_in (((G 17 ((G 19 264).toNatClampNeg)) >>> (24 &&& 31)) &&& 7) 269 ∧ True))))) ∧ (¬ (f_Mo_kindOf G (G 17 ((G 19 264).toNatClampNeg))) = 8 → (vp_in (((G 17 ((G 19 264).toNatClampNeg)) >>> (20 &&& 31)) &&& 7) 269 ∧ (vp_in (((G 17 ((G 19 264).toNatClampNeg)) >>> (16 &&& 31)) &&& 7) 269 ∧ (((f_Mo_kindOf G (G 17 ((G 19 264).toNatClampNeg))) = 8 → (vp_in (((G 17 ((G 19 264).toNatClampNeg)) >>> (24 &&& 31)) &&& 7) 269 ∧ True)) ∧ (¬ (f_Mo_kindOf G (G 17 ((G 19 264).toNatClampNeg))) = 8 → (vp_in (((G 17 ((G 19 264).toNatClampNeg)) >>> (24 &&& 31)) &&& 7) 269 ∧ True)))))))))))))))) ∧ (¬ (f_Mo_kindOf G (G 17 ((G 19 264).toNatClampNeg))) ≤ 12 → True))))))) := hok
  refine lv_aload_n hx hb d_Mo_advance_0 rfl (lv_at hl 0 rfl) ?_
  refine gr_16_3 hC hB fl_Mo_7 d_Mo_advance_1 ?_
  refine lv_aload_n hx hb d_Mo_advance_4 rfl (lv_at hl 1 rfl) ?_
  refine lv_sipush (v := 264) hx hb d_Mo_advance_5 (by decide) ?_
  refine ga_19 (x := (G 19 264)) hC hB (by decide) rfl d_Mo_advance_8 ?_
  refine ga_17 (x := (G 17 ((G 19 264).toNatClampNeg))) hC hB hok.1 rfl d_Mo_advance_9 ?_
  have hok := hok.2
  refine lv_istore_n (lv' := [(3, .int (G 17 ((G 19 264).toNatClampNeg))), (0, .ref (ad 16)), (1, .ref (ad 19)), (2, .int p2)]) hx hb d_Mo_advance_10 rfl hl (by decide) rfl (fun ls hl => ?_)
  refine lv_iload_n hx hb d_Mo_advance_11 rfl (lv_at hl 0 rfl) ?_
  refine g_callSi (As := [.int (G 17 ((G 19 264).toNatClampNeg))]) (rest := []) hC hB (c_Mo_kindOf l G (G 17 ((G 19 264).toNatClampNeg)) O) rfl key_Mo_kindOf rfl sta_Mo_kindOf ml_Mo_69 rfl hl.1 ⟨Nat.le_of_ble_eq_true rfl, Nat.le_of_ble_eq_true rfl, Nat.le_of_ble_eq_true rfl, Nat.le_of_ble_eq_true rfl⟩ d_Mo_advance_12 (fun H locs hB => ?_)
  refine lv_istore (lv' := [(4, .int (f_Mo_kindOf G (G 17 ((G 19 264).toNatClampNeg)))), (3, .int (G 17 ((G 19 264).toNatClampNeg))), (0, .ref (ad 16)), (1, .ref (ad 19)), (2, .int p2)]) hx hb d_Mo_advance_15 hl (by decide) rfl (fun ls hl => ?_)
  refine lv_iload_n hx hb d_Mo_advance_17 rfl (lv_at hl 1 rfl) ?_
  refine lv_bipush (v := 24) hx hb d_Mo_advance_18 (by decide) ?_
  refine lv_ishr hx hb d_Mo_advance_20 ?_
  refine lv_bipush (v := 7) hx hb d_Mo_advance_21 (by decide) ?_
  refine lv_iand hx hb d_Mo_advance_23 ?_
  refine lv_istore (lv' := [(5, .int (((G 17 ((G 19 264).toNatClampNeg)) >>> (24 &&& 31)) &&& 7)), (4, .int (f_Mo_kindOf G (G 17 ((G 19 264).toNatClampNeg)))), (3, .int (G 17 ((G 19 264).toNatClampNeg))), (0, .ref (ad 16)), (1, .ref (ad 19)), (2, .int p2)]) hx hb d_Mo_advance_24 hl (by decide) rfl (fun ls hl => ?_)
  refine lv_iload_n hx hb d_Mo_advance_26 rfl (lv_at hl 2 rfl) ?_
  refine lv_bipush (v := 20) hx hb d_Mo_advance_27 (by decide) ?_
  refine lv_ishr hx hb d_Mo_advance_29 ?_
  refine lv_bipush (v := 7) hx hb d_Mo_advance_30 (by decide) ?_
  refine lv_iand hx hb d_Mo_advance_32 ?_
  refine lv_istore (lv' := [(6, .int (((G 17 ((G 19 264).toNatClampNeg)) >>> (20 &&& 31)) &&& 7)), (5, .int (((G 17 ((G 19 264).toNatClampNeg)) >>> (24 &&& 31)) &&& 7)), (4, .int (f_Mo_kindOf G (G 17 ((G 19 264).toNatClampNeg)))), (3, .int (G 17 ((G 19 264).toNatClampNeg))), (0, .ref (ad 16)), (1, .ref (ad 19)), (2, .int p2)]) hx hb d_Mo_advance_33 hl (by decide) rfl (fun ls hl => ?_)
  refine lv_iload_n hx hb d_Mo_advance_35 rfl (lv_at hl 3 rfl) ?_
  refine lv_bipush (v := 16) hx hb d_Mo_advance_36 (by decide) ?_
  refine lv_ishr hx hb d_Mo_advance_38 ?_
  refine lv_bipush (v := 7) hx hb d_Mo_advance_39 (by decide) ?_
  refine lv_iand hx hb d_Mo_advance_41 ?_
  refine lv_istore (lv' := [(7, .int (((G 17 ((G 19 264).toNatClampNeg)) >>> (16 &&& 31)) &&& 7)), (6, .int (((G 17 ((G 19 264).toNatClampNeg)) >>> (20 &&& 31)) &&& 7)), (5, .int (((G 17 ((G 19 264).toNatClampNeg)) >>> (24 &&& 31)) &&& 7)), (4, .int (f_Mo_kindOf G (G 17 ((G 19 264).toNatClampNeg)))), (3, .int (G 17 ((G 19 264).toNatClampNeg))), (0, .ref (ad 16)), (1, .ref (ad 19)), (2, .int p2)]) hx hb d_Mo_advance_42 hl (by decide) rfl (fun ls hl => ?_)
  refine lv_iload_n hx hb d_Mo_advance_44 rfl (lv_at hl 4 rfl) ?_
  refine lv_bipush (v := 16) hx hb d_Mo_advance_45 (by decide) ?_
  refine lv_ishl hx hb d_Mo_advance_47 ?_
  refine lv_bipush (v := 16) hx hb d_Mo_advance_48 (by decide) ?_
  refine lv_ishr hx hb d_Mo_advance_50 ?_
  refine lv_istore (lv' := [(8, .int (((G 17 ((G 19 264).toNatClampNeg)) <<< (16 &&& 31)) >>> (16 &&& 31))), (7, .int (((G 17 ((G 19 264).toNatClampNeg)) >>> (16 &&& 31)) &&& 7)), (6, .int (((G 17 ((G 19 264).toNatClampNeg)) >>> (20 &&& 31)) &&& 7)), (5, .int (((G 17 ((G 19 264).toNatClampNeg)) >>> (24 &&& 31)) &&& 7)), (4, .int (f_Mo_kindOf G (G 17 ((G 19 264).toNatClampNeg)))), (3, .int (G 17 ((G 19 264).toNatClampNeg))), (0, .ref (ad 16)), (1, .ref (ad 19)), (2, .int p2)]) hx hb d_Mo_advance_51 hl (by decide) rfl (fun ls hl => ?_)
  refine lv_aload_n hx hb d_Mo_advance_53 rfl (lv_at hl 6 rfl) ?_
  refine lv_iconst (v := (-1)) hx hb d_Mo_advance_54 (by decide) ?_
  refine gp_16_14 hC hB fl_Mo_72 d_Mo_advance_55 (fun H locs hB => ?_)
  refine lv_iload hx hb d_Mo_advance_58 (lv_at hl 4 rfl) ?_
  refine lv_bipush (v := 8) hx hb d_Mo_advance_60 (by decide) ?_
  refine lv_icmp_ne (tgt := 76) hx hb d_Mo_advance_62 (by decide) (fun c1 => ?_) (fun c1 => ?_)
  · have hf := hf.trans (if_neg c1)
    have hok := hok.2 c1
    refine lv_iload hx hb d_Mo_advance_76 (lv_at hl 4 rfl) ?_
    refine lv_if_eq (tgt := 88) hx hb d_Mo_advance_78 (by decide) (fun c2 => ?_) (fun c2 => ?_)
    · have hf := hf.trans (if_pos c2)
      have hok := hok.1 c2
      refine lv_aload_n hx hb d_Mo_advance_88 rfl (lv_at hl 7 rfl) ?_
      refine lv_sipush (v := 268) hx hb d_Mo_advance_89 (by decide) ?_
      refine lv_iload hx hb d_Mo_advance_92 (lv_at hl 4 rfl) ?_
      refine lv_if_ne (tgt := 101) hx hb d_Mo_advance_94 (by decide) (fun c3 => ?_) (fun c3 => ?_)
      · have hf := hf.trans (if_neg c3)
        refine lv_iconst (v := 2) hx hb d_Mo_advance_101 (by decide) ?_
        refine gs_19 hC hB (by decide) d_Mo_advance_102 (fun H locs hB => ?_)
        refine lv_iconst (v := 1) hx hb d_Mo_advance_103 (by decide) ?_
        exact g_zret hC hB hr hlk (by decide) (by decide) (by decide) (by rw [hf]) (by rw [hf]) d_Mo_advance_104
      · have hf := hf.trans (if_pos c3)
        refine lv_iconst (v := 1) hx hb d_Mo_advance_97 (by decide) ?_
        refine lv_goto (tgt := 102) hx hb d_Mo_advance_98 (by decide) ?_
        refine gs_19 hC hB (by decide) d_Mo_advance_102 (fun H locs hB => ?_)
        refine lv_iconst (v := 1) hx hb d_Mo_advance_103 (by decide) ?_
        exact g_zret hC hB hr hlk (by decide) (by decide) (by decide) (by rw [hf]) (by rw [hf]) d_Mo_advance_104
    · have hf := hf.trans (if_neg c2)
      have hok := hok.2 c2
      refine lv_iload hx hb d_Mo_advance_81 (lv_at hl 4 rfl) ?_
      refine lv_bipush (v := 12) hx hb d_Mo_advance_83 (by decide) ?_
      refine lv_icmp_le (tgt := 105) hx hb d_Mo_advance_85 (by decide) (fun c4 => ?_) (fun c4 => ?_)
      · have hf := hf.trans (if_pos c4)
        have hok := hok.1 c4
        refine lv_aload_n hx hb d_Mo_advance_105 rfl (lv_at hl 7 rfl) ?_
        refine lv_sipush (v := 264) hx hb d_Mo_advance_106 (by decide) ?_
        refine ga_19 (x := (G 19 264)) hC hB (by decide) rfl d_Mo_advance_109 ?_
        refine lv_iconst (v := 1) hx hb d_Mo_advance_110 (by decide) ?_
        refine lv_iadd hx hb d_Mo_advance_111 ?_
        refine lv_bipush (v := 63) hx hb d_Mo_advance_112 (by decide) ?_
        refine lv_iand hx hb d_Mo_advance_114 ?_
        refine lv_istore (lv' := [(9, .int (((G 19 264) + 1) &&& 63)), (8, .int (((G 17 ((G 19 264).toNatClampNeg)) <<< (16 &&& 31)) >>> (16 &&& 31))), (7, .int (((G 17 ((G 19 264).toNatClampNeg)) >>> (16 &&& 31)) &&& 7)), (6, .int (((G 17 ((G 19 264).toNatClampNeg)) >>> (20 &&& 31)) &&& 7)), (5, .int (((G 17 ((G 19 264).toNatClampNeg)) >>> (24 &&& 31)) &&& 7)), (4, .int (f_Mo_kindOf G (G 17 ((G 19 264).toNatClampNeg)))), (3, .int (G 17 ((G 19 264).toNatClampNeg))), (0, .ref (ad 16)), (1, .ref (ad 19)), (2, .int p2)]) hx hb d_Mo_advance_115 hl (by decide) rfl (fun ls hl => ?_)
        refine lv_iload hx hb d_Mo_advance_117 (lv_at hl 5 rfl) ?_
        refine lv_bipush (v := 7) hx hb d_Mo_advance_119 (by decide) ?_
        refine lv_icmp_ne (tgt := 152) hx hb d_Mo_advance_121 (by decide) (fun c5 => ?_) (fun c5 => ?_)
        · have hf := hf.trans (if_neg c5)
          have hok := hok.2 c5
          refine lv_iload hx hb d_Mo_advance_152 (lv_at hl 5 rfl) ?_
          refine lv_bipush (v := 9) hx hb d_Mo_advance_154 (by decide) ?_
          refine lv_icmp_ne (tgt := 189) hx hb d_Mo_advance_156 (by decide) (fun c6 => ?_) (fun c6 => ?_)
          · have hf := hf.trans (if_neg c6)
            have hok := hok.2 c6
            refine lv_iload hx hb d_Mo_advance_189 (lv_at hl 5 rfl) ?_
            refine lv_bipush (v := 6) hx hb d_Mo_advance_191 (by decide) ?_
            refine lv_icmp_ne (tgt := 227) hx hb d_Mo_advance_193 (by decide) (fun c7 => ?_) (fun c7 => ?_)
            · have hf := hf.trans (if_neg c7)
              have hok := hok.2 c7
              refine lv_iload hx hb d_Mo_advance_227 (lv_at hl 5 rfl) ?_
              refine lv_iconst (v := 5) hx hb d_Mo_advance_229 (by decide) ?_
              refine lv_icmp_ne (tgt := 252) hx hb d_Mo_advance_230 (by decide) (fun c8 => ?_) (fun c8 => ?_)
              · have hf := hf.trans (if_neg c8)
                have hok := hok.2 c8
                refine lv_iload hx hb d_Mo_advance_252 (lv_at hl 5 rfl) ?_
                refine lv_bipush (v := 8) hx hb d_Mo_advance_254 (by decide) ?_
                refine lv_icmp_ne (tgt := 272) hx hb d_Mo_advance_256 (by decide) (fun c9 => ?_) (fun c9 => ?_)
                · have hf := hf.trans (if_neg c9)
                  have hok := hok.2 c9
                  refine lv_iload hx hb d_Mo_advance_272 (lv_at hl 5 rfl) ?_
                  refine lv_aload_n hx hb d_Mo_advance_274 rfl (lv_at hl 8 rfl) ?_
                  refine lv_iload hx hb d_Mo_advance_275 (lv_at hl 3 rfl) ?_
                  refine ga_19 (x := (G 19 ((((G 17 ((G 19 264).toNatClampNeg)) >>> (20 &&& 31)) &&& 7).toNatClampNeg))) hC hB hok.1 rfl d_Mo_advance_277 ?_
                  have hok := hok.2
                  refine lv_aload_n hx hb d_Mo_advance_278 rfl (lv_at hl 8 rfl) ?_
                  refine lv_iload hx hb d_Mo_advance_279 (lv_at hl 2 rfl) ?_
                  refine ga_19 (x := (G 19 ((((G 17 ((G 19 264).toNatClampNeg)) >>> (16 &&& 31)) &&& 7).toNatClampNeg))) hC hB hok.1 rfl d_Mo_advance_281 ?_
                  have hok := hok.2
                  refine lv_iload hx hb d_Mo_advance_282 (lv_at hl 1 rfl) ?_
                  refine g_callSi (As := [.int (f_Mo_kindOf G (G 17 ((G 19 264).toNatClampNeg))), .int (G 19 ((((G 17 ((G 19 264).toNatClampNeg)) >>> (20 &&& 31)) &&& 7).toNatClampNeg)), .int (G 19 ((((G 17 ((G 19 264).toNatClampNeg)) >>> (16 &&& 31)) &&& 7).toNatClampNeg)), .int (((G 17 ((G 19 264).toNatClampNeg)) <<< (16 &&& 31)) >>> (16 &&& 31))]) (rest := []) hC hB (c_Mo_result l (g_up G 16 14 (-1)) (f_Mo_kindOf G (G 17 ((G 19 264).toNatClampNeg))) (G 19 ((((G 17 ((G 19 264).toNatClampNeg)) >>> (20 &&& 31)) &&& 7).toNatClampNeg)) (G 19 ((((G 17 ((G 19 264).toNatClampNeg)) >>> (16 &&& 31)) &&& 7).toNatClampNeg)) (((G 17 ((G 19 264).toNatClampNeg)) <<< (16 &&& 31)) >>> (16 &&& 31)) O) rfl key_Mo_result rfl sta_Mo_result ml_Mo_75 rfl hl.1 ⟨Nat.le_of_ble_eq_true rfl, Nat.le_of_ble_eq_true rfl, Nat.le_of_ble_eq_true rfl, Nat.le_of_ble_eq_true rfl⟩ d_Mo_advance_284 (fun H locs hB => ?_)
                  refine lv_istore (lv' := [(10, .int (f_Mo_result (g_up G 16 14 (-1)) (f_Mo_kindOf G (G 17 ((G 19 264).toNatClampNeg))) (G 19 ((((G 17 ((G 19 264).toNatClampNeg)) >>> (20 &&& 31)) &&& 7).toNatClampNeg)) (G 19 ((((G 17 ((G 19 264).toNatClampNeg)) >>> (16 &&& 31)) &&& 7).toNatClampNeg)) (((G 17 ((G 19 264).toNatClampNeg)) <<< (16 &&& 31)) >>> (16 &&& 31)))), (9, .int (((G 19 264) + 1) &&& 63)), (8, .int (((G 17 ((G 19 264).toNatClampNeg)) <<< (16 &&& 31)) >>> (16 &&& 31))), (7, .int (((G 17 ((G 19 264).toNatClampNeg)) >>> (16 &&& 31)) &&& 7)), (6, .int (((G 17 ((G 19 264).toNatClampNeg)) >>> (20 &&& 31)) &&& 7)), (5, .int (((G 17 ((G 19 264).toNatClampNeg)) >>> (24 &&& 31)) &&& 7)), (4, .int (f_Mo_kindOf G (G 17 ((G 19 264).toNatClampNeg)))), (3, .int (G 17 ((G 19 264).toNatClampNeg))), (0, .ref (ad 16)), (1, .ref (ad 19)), (2, .int p2)]) hx hb d_Mo_advance_287 hl (by decide) rfl (fun ls hl => ?_)
                  refine lv_aload_n hx hb d_Mo_advance_289 rfl (lv_at hl 9 rfl) ?_
                  refine lv_sipush (v := 265) hx hb d_Mo_advance_290 (by decide) ?_
                  refine lv_dup2_11 hx hb d_Mo_advance_293 rfl rfl ?_
                  refine ga_19 (x := (G 19 265)) hC hB (by decide) rfl d_Mo_advance_294 ?_
                  refine lv_iload hx hb d_Mo_advance_295 (lv_at hl 6 rfl) ?_
                  refine lv_bipush (v := 8) hx hb d_Mo_advance_297 (by decide) ?_
                  refine lv_icmp_ne (tgt := 306) hx hb d_Mo_advance_299 (by decide) (fun c10 => ?_) (fun c10 => ?_)
                  · have hf := hf.trans (if_neg c10)
                    have hok := hok.2 c10
                    refine lv_iconst (v := 0) hx hb d_Mo_advance_306 (by decide) ?_
                    refine lv_iadd hx hb d_Mo_advance_307 ?_
                    refine gs_19 hC hB (by decide) d_Mo_advance_308 (fun H locs hB => ?_)
                    refine lv_aload_n hx hb d_Mo_advance_309 rfl (lv_at hl 9 rfl) ?_
                    refine lv_iload hx hb d_Mo_advance_310 (lv_at hl 5 rfl) ?_
                    refine lv_iload hx hb d_Mo_advance_312 (lv_at hl 0 rfl) ?_
                    refine gs_19 hC hB hok.1 d_Mo_advance_314 (fun H locs hB => ?_)
                    have hok := hok.2
                    refine lv_aload_n hx hb d_Mo_advance_315 rfl (lv_at hl 8 rfl) ?_
                    refine lv_iload hx hb d_Mo_advance_316 (lv_at hl 5 rfl) ?_
                    refine gp_16_14 hC hB fl_Mo_72 d_Mo_advance_318 (fun H locs hB => ?_)
                    refine lv_aload_n hx hb d_Mo_advance_321 rfl (lv_at hl 9 rfl) ?_
                    refine lv_sipush (v := 264) hx hb d_Mo_advance_322 (by decide) ?_
                    refine lv_iload hx hb d_Mo_advance_325 (lv_at hl 1 rfl) ?_
                    refine gs_19 hC hB (by decide) d_Mo_advance_327 (fun H locs hB => ?_)
                    refine lv_iconst (v := 1) hx hb d_Mo_advance_328 (by decide) ?_
                    exact g_zret hC hB hr hlk (by decide) (by decide) (by decide) (by rw [hf]) (by rw [hf]) d_Mo_advance_329
                  · have hf := hf.trans (if_pos c10)
                    have hok := hok.1 c10
                    refine lv_iconst (v := 1) hx hb d_Mo_advance_302 (by decide) ?_
                    refine lv_goto (tgt := 307) hx hb d_Mo_advance_303 (by decide) ?_
                    refine lv_iadd hx hb d_Mo_advance_307 ?_
                    refine gs_19 hC hB (by decide) d_Mo_advance_308 (fun H locs hB => ?_)
                    refine lv_aload_n hx hb d_Mo_advance_309 rfl (lv_at hl 9 rfl) ?_
                    refine lv_iload hx hb d_Mo_advance_310 (lv_at hl 5 rfl) ?_
                    refine lv_iload hx hb d_Mo_advance_312 (lv_at hl 0 rfl) ?_
                    refine gs_19 hC hB hok.1 d_Mo_advance_314 (fun H locs hB => ?_)
                    have hok := hok.2
                    refine lv_aload_n hx hb d_Mo_advance_315 rfl (lv_at hl 8 rfl) ?_
                    refine lv_iload hx hb d_Mo_advance_316 (lv_at hl 5 rfl) ?_
                    refine gp_16_14 hC hB fl_Mo_72 d_Mo_advance_318 (fun H locs hB => ?_)
                    refine lv_aload_n hx hb d_Mo_advance_321 rfl (lv_at hl 9 rfl) ?_
                    refine lv_sipush (v := 264) hx hb d_Mo_advance_322 (by decide) ?_
                    refine lv_iload hx hb d_Mo_advance_325 (lv_at hl 1 rfl) ?_
                    refine gs_19 hC hB (by decide) d_Mo_advance_327 (fun H locs hB => ?_)
                    refine lv_iconst (v := 1) hx hb d_Mo_advance_328 (by decide) ?_
                    exact g_zret hC hB hr hlk (by decide) (by decide) (by decide) (by rw [hf]) (by rw [hf]) d_Mo_advance_329
                · have hf := hf.trans (if_pos c9)
                  have hok := hok.1 c9
                  refine lv_aload_n hx hb d_Mo_advance_259 rfl (lv_at hl 7 rfl) ?_
                  refine gr_16_5 hC hB fl_Mo_13 d_Mo_advance_260 ?_
                  refine lv_aload_n hx hb d_Mo_advance_263 rfl (lv_at hl 8 rfl) ?_
                  refine lv_sipush (v := 265) hx hb d_Mo_advance_264 (by decide) ?_
                  refine ga_19 (x := (G 19 265)) hC hB (by decide) rfl d_Mo_advance_267 ?_
                  refine ga_18 (x := (G 18 ((G 19 265).toNatClampNeg))) hC hB hok.1 rfl d_Mo_advance_268 ?_
                  have hok := hok.2
                  refine lv_goto (tgt := 287) hx hb d_Mo_advance_269 (by decide) ?_
                  refine lv_istore (lv' := [(10, .int (G 18 ((G 19 265).toNatClampNeg))), (9, .int (((G 19 264) + 1) &&& 63)), (8, .int (((G 17 ((G 19 264).toNatClampNeg)) <<< (16 &&& 31)) >>> (16 &&& 31))), (7, .int (((G 17 ((G 19 264).toNatClampNeg)) >>> (16 &&& 31)) &&& 7)), (6, .int (((G 17 ((G 19 264).toNatClampNeg)) >>> (20 &&& 31)) &&& 7)), (5, .int (((G 17 ((G 19 264).toNatClampNeg)) >>> (24 &&& 31)) &&& 7)), (4, .int (f_Mo_kindOf G (G 17 ((G 19 264).toNatClampNeg)))), (3, .int (G 17 ((G 19 264).toNatClampNeg))), (0, .ref (ad 16)), (1, .ref (ad 19)), (2, .int p2)]) hx hb d_Mo_advance_287 hl (by decide) rfl (fun ls hl => ?_)
                  refine lv_aload_n hx hb d_Mo_advance_289 rfl (lv_at hl 9 rfl) ?_
                  refine lv_sipush (v := 265) hx hb d_Mo_advance_290 (by decide) ?_
                  refine lv_dup2_11 hx hb d_Mo_advance_293 rfl rfl ?_
                  refine ga_19 (x := (G 19 265)) hC hB (by decide) rfl d_Mo_advance_294 ?_
                  refine lv_iload hx hb d_Mo_advance_295 (lv_at hl 6 rfl) ?_
                  refine lv_bipush (v := 8) hx hb d_Mo_advance_297 (by decide) ?_
                  refine lv_icmp_ne (tgt := 306) hx hb d_Mo_advance_299 (by decide) (fun c11 => ?_) (fun c11 => ?_)
                  · have hf := hf.trans (if_neg c11)
                    have hok := hok.2 c11
                    refine lv_iconst (v := 0) hx hb d_Mo_advance_306 (by decide) ?_
                    refine lv_iadd hx hb d_Mo_advance_307 ?_
                    refine gs_19 hC hB (by decide) d_Mo_advance_308 (fun H locs hB => ?_)
                    refine lv_aload_n hx hb d_Mo_advance_309 rfl (lv_at hl 9 rfl) ?_
                    refine lv_iload hx hb d_Mo_advance_310 (lv_at hl 5 rfl) ?_
                    refine lv_iload hx hb d_Mo_advance_312 (lv_at hl 0 rfl) ?_
                    refine gs_19 hC hB hok.1 d_Mo_advance_314 (fun H locs hB => ?_)
                    have hok := hok.2
                    refine lv_aload_n hx hb d_Mo_advance_315 rfl (lv_at hl 8 rfl) ?_
                    refine lv_iload hx hb d_Mo_advance_316 (lv_at hl 5 rfl) ?_
                    refine gp_16_14 hC hB fl_Mo_72 d_Mo_advance_318 (fun H locs hB => ?_)
                    refine lv_aload_n hx hb d_Mo_advance_321 rfl (lv_at hl 9 rfl) ?_
                    refine lv_sipush (v := 264) hx hb d_Mo_advance_322 (by decide) ?_
                    refine lv_iload hx hb d_Mo_advance_325 (lv_at hl 1 rfl) ?_
                    refine gs_19 hC hB (by decide) d_Mo_advance_327 (fun H locs hB => ?_)
                    refine lv_iconst (v := 1) hx hb d_Mo_advance_328 (by decide) ?_
                    exact g_zret hC hB hr hlk (by decide) (by decide) (by decide) (by rw [hf]) (by rw [hf]) d_Mo_advance_329
                  · have hf := hf.trans (if_pos c11)
                    have hok := hok.1 c11
                    refine lv_iconst (v := 1) hx hb d_Mo_advance_302 (by decide) ?_
                    refine lv_goto (tgt := 307) hx hb d_Mo_advance_303 (by decide) ?_
                    refine lv_iadd hx hb d_Mo_advance_307 ?_
                    refine gs_19 hC hB (by decide) d_Mo_advance_308 (fun H locs hB => ?_)
                    refine lv_aload_n hx hb d_Mo_advance_309 rfl (lv_at hl 9 rfl) ?_
                    refine lv_iload hx hb d_Mo_advance_310 (lv_at hl 5 rfl) ?_
                    refine lv_iload hx hb d_Mo_advance_312 (lv_at hl 0 rfl) ?_
                    refine gs_19 hC hB hok.1 d_Mo_advance_314 (fun H locs hB => ?_)
                    have hok := hok.2
                    refine lv_aload_n hx hb d_Mo_advance_315 rfl (lv_at hl 8 rfl) ?_
                    refine lv_iload hx hb d_Mo_advance_316 (lv_at hl 5 rfl) ?_
                    refine gp_16_14 hC hB fl_Mo_72 d_Mo_advance_318 (fun H locs hB => ?_)
                    refine lv_aload_n hx hb d_Mo_advance_321 rfl (lv_at hl 9 rfl) ?_
                    refine lv_sipush (v := 264) hx hb d_Mo_advance_322 (by decide) ?_
                    refine lv_iload hx hb d_Mo_advance_325 (lv_at hl 1 rfl) ?_
                    refine gs_19 hC hB (by decide) d_Mo_advance_327 (fun H locs hB => ?_)
                    refine lv_iconst (v := 1) hx hb d_Mo_advance_328 (by decide) ?_
                    exact g_zret hC hB hr hlk (by decide) (by decide) (by decide) (by rw [hf]) (by rw [hf]) d_Mo_advance_329
              · have hf := hf.trans (if_pos c8)
                have hok := hok.1 c8
                refine lv_aload_n hx hb d_Mo_advance_233 rfl (lv_at hl 8 rfl) ?_
                refine lv_bipush (v := 8) hx hb d_Mo_advance_234 (by decide) ?_
                refine lv_aload_n hx hb d_Mo_advance_236 rfl (lv_at hl 8 rfl) ?_
                refine lv_iload hx hb d_Mo_advance_237 (lv_at hl 3 rfl) ?_
                refine ga_19 (x := (G 19 ((((G 17 ((G 19 264).toNatClampNeg)) >>> (20 &&& 31)) &&& 7).toNatClampNeg))) hC hB hok.1 rfl d_Mo_advance_239 ?_
                have hok := hok.2
                refine lv_iload hx hb d_Mo_advance_240 (lv_at hl 1 rfl) ?_
                refine lv_iadd hx hb d_Mo_advance_242 ?_
                refine lv_sipush (v := 255) hx hb d_Mo_advance_243 (by decide) ?_
                refine lv_iand hx hb d_Mo_advance_246 ?_
                refine lv_iadd hx hb d_Mo_advance_247 ?_
                refine ga_19 (x := (G 19 ((8 + (((G 19 ((((G 17 ((G 19 264).toNatClampNeg)) >>> (20 &&& 31)) &&& 7).toNatClampNeg)) + (((G 17 ((G 19 264).toNatClampNeg)) <<< (16 &&& 31)) >>> (16 &&& 31))) &&& 255)).toNatClampNeg))) hC hB hok.1 rfl d_Mo_advance_248 ?_
                have hok := hok.2
                refine lv_goto (tgt := 287) hx hb d_Mo_advance_249 (by decide) ?_
                refine lv_istore (lv' := [(10, .int (G 19 ((8 + (((G 19 ((((G 17 ((G 19 264).toNatClampNeg)) >>> (20 &&& 31)) &&& 7).toNatClampNeg)) + (((G 17 ((G 19 264).toNatClampNeg)) <<< (16 &&& 31)) >>> (16 &&& 31))) &&& 255)).toNatClampNeg))), (9, .int (((G 19 264) + 1) &&& 63)), (8, .int (((G 17 ((G 19 264).toNatClampNeg)) <<< (16 &&& 31)) >>> (16 &&& 31))), (7, .int (((G 17 ((G 19 264).toNatClampNeg)) >>> (16 &&& 31)) &&& 7)), (6, .int (((G 17 ((G 19 264).toNatClampNeg)) >>> (20 &&& 31)) &&& 7)), (5, .int (((G 17 ((G 19 264).toNatClampNeg)) >>> (24 &&& 31)) &&& 7)), (4, .int (f_Mo_kindOf G (G 17 ((G 19 264).toNatClampNeg)))), (3, .int (G 17 ((G 19 264).toNatClampNeg))), (0, .ref (ad 16)), (1, .ref (ad 19)), (2, .int p2)]) hx hb d_Mo_advance_287 hl (by decide) rfl (fun ls hl => ?_)
                refine lv_aload_n hx hb d_Mo_advance_289 rfl (lv_at hl 9 rfl) ?_
                refine lv_sipush (v := 265) hx hb d_Mo_advance_290 (by decide) ?_
                refine lv_dup2_11 hx hb d_Mo_advance_293 rfl rfl ?_
                refine ga_19 (x := (G 19 265)) hC hB (by decide) rfl d_Mo_advance_294 ?_
                refine lv_iload hx hb d_Mo_advance_295 (lv_at hl 6 rfl) ?_
                refine lv_bipush (v := 8) hx hb d_Mo_advance_297 (by decide) ?_
                refine lv_icmp_ne (tgt := 306) hx hb d_Mo_advance_299 (by decide) (fun c12 => ?_) (fun c12 => ?_)
                · have hf := hf.trans (if_neg c12)
                  have hok := hok.2 c12
                  refine lv_iconst (v := 0) hx hb d_Mo_advance_306 (by decide) ?_
                  refine lv_iadd hx hb d_Mo_advance_307 ?_
                  refine gs_19 hC hB (by decide) d_Mo_advance_308 (fun H locs hB => ?_)
                  refine lv_aload_n hx hb d_Mo_advance_309 rfl (lv_at hl 9 rfl) ?_
                  refine lv_iload hx hb d_Mo_advance_310 (lv_at hl 5 rfl) ?_
                  refine lv_iload hx hb d_Mo_advance_312 (lv_at hl 0 rfl) ?_
                  refine gs_19 hC hB hok.1 d_Mo_advance_314 (fun H locs hB => ?_)
                  have hok := hok.2
                  refine lv_aload_n hx hb d_Mo_advance_315 rfl (lv_at hl 8 rfl) ?_
                  refine lv_iload hx hb d_Mo_advance_316 (lv_at hl 5 rfl) ?_
                  refine gp_16_14 hC hB fl_Mo_72 d_Mo_advance_318 (fun H locs hB => ?_)
                  refine lv_aload_n hx hb d_Mo_advance_321 rfl (lv_at hl 9 rfl) ?_
                  refine lv_sipush (v := 264) hx hb d_Mo_advance_322 (by decide) ?_
                  refine lv_iload hx hb d_Mo_advance_325 (lv_at hl 1 rfl) ?_
                  refine gs_19 hC hB (by decide) d_Mo_advance_327 (fun H locs hB => ?_)
                  refine lv_iconst (v := 1) hx hb d_Mo_advance_328 (by decide) ?_
                  exact g_zret hC hB hr hlk (by decide) (by decide) (by decide) (by rw [hf]) (by rw [hf]) d_Mo_advance_329
                · have hf := hf.trans (if_pos c12)
                  have hok := hok.1 c12
                  refine lv_iconst (v := 1) hx hb d_Mo_advance_302 (by decide) ?_
                  refine lv_goto (tgt := 307) hx hb d_Mo_advance_303 (by decide) ?_
                  refine lv_iadd hx hb d_Mo_advance_307 ?_
                  refine gs_19 hC hB (by decide) d_Mo_advance_308 (fun H locs hB => ?_)
                  refine lv_aload_n hx hb d_Mo_advance_309 rfl (lv_at hl 9 rfl) ?_
                  refine lv_iload hx hb d_Mo_advance_310 (lv_at hl 5 rfl) ?_
                  refine lv_iload hx hb d_Mo_advance_312 (lv_at hl 0 rfl) ?_
                  refine gs_19 hC hB hok.1 d_Mo_advance_314 (fun H locs hB => ?_)
                  have hok := hok.2
                  refine lv_aload_n hx hb d_Mo_advance_315 rfl (lv_at hl 8 rfl) ?_
                  refine lv_iload hx hb d_Mo_advance_316 (lv_at hl 5 rfl) ?_
                  refine gp_16_14 hC hB fl_Mo_72 d_Mo_advance_318 (fun H locs hB => ?_)
                  refine lv_aload_n hx hb d_Mo_advance_321 rfl (lv_at hl 9 rfl) ?_
                  refine lv_sipush (v := 264) hx hb d_Mo_advance_322 (by decide) ?_
                  refine lv_iload hx hb d_Mo_advance_325 (lv_at hl 1 rfl) ?_
                  refine gs_19 hC hB (by decide) d_Mo_advance_327 (fun H locs hB => ?_)
                  refine lv_iconst (v := 1) hx hb d_Mo_advance_328 (by decide) ?_
                  exact g_zret hC hB hr hlk (by decide) (by decide) (by decide) (by rw [hf]) (by rw [hf]) d_Mo_advance_329
            · have hf := hf.trans (if_pos c7)
              have hok := hok.1 c7
              refine lv_aload_n hx hb d_Mo_advance_196 rfl (lv_at hl 7 rfl) ?_
              refine lv_bipush (v := 8) hx hb d_Mo_advance_197 (by decide) ?_
              refine lv_aload_n hx hb d_Mo_advance_199 rfl (lv_at hl 8 rfl) ?_
              refine lv_iload hx hb d_Mo_advance_200 (lv_at hl 3 rfl) ?_
              refine ga_19 (x := (G 19 ((((G 17 ((G 19 264).toNatClampNeg)) >>> (20 &&& 31)) &&& 7).toNatClampNeg))) hC hB hok.1 rfl d_Mo_advance_202 ?_
              have hok := hok.2
              refine lv_iload hx hb d_Mo_advance_203 (lv_at hl 1 rfl) ?_
              refine lv_iadd hx hb d_Mo_advance_205 ?_
              refine lv_sipush (v := 255) hx hb d_Mo_advance_206 (by decide) ?_
              refine lv_iand hx hb d_Mo_advance_209 ?_
              refine lv_iadd hx hb d_Mo_advance_210 ?_
              refine gp_16_14 hC hB fl_Mo_72 d_Mo_advance_211 (fun H locs hB => ?_)
              refine lv_aload_n hx hb d_Mo_advance_214 rfl (lv_at hl 8 rfl) ?_
              refine lv_aload_n hx hb d_Mo_advance_215 rfl (lv_at hl 7 rfl) ?_
              refine gg_16_14 (x := 8 + (((G 19 ((((G 17 ((G 19 264).toNatClampNeg)) >>> (20 &&& 31)) &&& 7).toNatClampNeg)) + (((G 17 ((G 19 264).toNatClampNeg)) <<< (16 &&& 31)) >>> (16 &&& 31))) &&& 255)) hC hB rfl fl_Mo_72 d_Mo_advance_216 ?_
              refine lv_aload_n hx hb d_Mo_advance_219 rfl (lv_at hl 8 rfl) ?_
              refine lv_iload hx hb d_Mo_advance_220 (lv_at hl 4 rfl) ?_
              refine ga_19 (x := (G 19 ((((G 17 ((G 19 264).toNatClampNeg)) >>> (24 &&& 31)) &&& 7).toNatClampNeg))) hC hB hok.1 rfl d_Mo_advance_222 ?_
              have hok := hok.2
              refine gs_19 hC hB hok.1 d_Mo_advance_223 (fun H locs hB => ?_)
              have hok := hok.2
              refine lv_goto (tgt := 321) hx hb d_Mo_advance_224 (by decide) ?_
              refine lv_aload_n hx hb d_Mo_advance_321 rfl (lv_at hl 8 rfl) ?_
              refine lv_sipush (v := 264) hx hb d_Mo_advance_322 (by decide) ?_
              refine lv_iload hx hb d_Mo_advance_325 (lv_at hl 0 rfl) ?_
              refine gs_19 hC hB (by decide) d_Mo_advance_327 (fun H locs hB => ?_)
              refine lv_iconst (v := 1) hx hb d_Mo_advance_328 (by decide) ?_
              exact g_zret hC hB hr hlk (by decide) (by decide) (by decide) (by rw [hf]) (by rw [hf]) d_Mo_advance_329
          · have hf := hf.trans (if_pos c6)
            have hok := hok.1 c6
            refine lv_aload_n hx hb d_Mo_advance_159 rfl (lv_at hl 8 rfl) ?_
            refine lv_sipush (v := 266) hx hb d_Mo_advance_160 (by decide) ?_
            refine lv_dup2_11 hx hb d_Mo_advance_163 rfl rfl ?_
            refine ga_19 (x := (G 19 266)) hC hB (by decide) rfl d_Mo_advance_164 ?_
            refine lv_iconst (v := 1) hx hb d_Mo_advance_165 (by decide) ?_
            refine lv_iadd hx hb d_Mo_advance_166 ?_
            refine gs_19 hC hB (by decide) d_Mo_advance_167 (fun H locs hB => ?_)
            refine lv_aload_n hx hb d_Mo_advance_168 rfl (lv_at hl 8 rfl) ?_
            refine lv_sipush (v := 267) hx hb d_Mo_advance_169 (by decide) ?_
            refine lv_bipush (v := 31) hx hb d_Mo_advance_172 (by decide) ?_
            refine lv_aload_n hx hb d_Mo_advance_174 rfl (lv_at hl 8 rfl) ?_
            refine lv_sipush (v := 267) hx hb d_Mo_advance_175 (by decide) ?_
            refine ga_19 (x := (G 19 267)) hC hB (by decide) rfl d_Mo_advance_178 ?_
            refine lv_imul hx hb d_Mo_advance_179 ?_
            refine lv_aload_n hx hb d_Mo_advance_180 rfl (lv_at hl 8 rfl) ?_
            refine lv_iload hx hb d_Mo_advance_181 (lv_at hl 4 rfl) ?_
            refine ga_19 (x := ((g_up (g_up G 16 14 (-1)) 19 266 ((G 19 266) + 1)) 19 ((((G 17 ((G 19 264).toNatClampNeg)) >>> (24 &&& 31)) &&& 7).toNatClampNeg))) hC hB hok.1 rfl d_Mo_advance_183 ?_
            have hok := hok.2
            refine lv_iadd hx hb d_Mo_advance_184 ?_
            refine gs_19 hC hB (by decide) d_Mo_advance_185 (fun H locs hB => ?_)
            refine lv_goto (tgt := 321) hx hb d_Mo_advance_186 (by decide) ?_
            refine lv_aload_n hx hb d_Mo_advance_321 rfl (lv_at hl 8 rfl) ?_
            refine lv_sipush (v := 264) hx hb d_Mo_advance_322 (by decide) ?_
            refine lv_iload hx hb d_Mo_advance_325 (lv_at hl 0 rfl) ?_
            refine gs_19 hC hB (by decide) d_Mo_advance_327 (fun H locs hB => ?_)
            refine lv_iconst (v := 1) hx hb d_Mo_advance_328 (by decide) ?_
            exact g_zret hC hB hr hlk (by decide) (by decide) (by decide) (by rw [hf]) (by rw [hf]) d_Mo_advance_329
        · have hf := hf.trans (if_pos c5)
          have hok := hok.1 c5
          refine lv_aload_n hx hb d_Mo_advance_124 rfl (lv_at hl 8 rfl) ?_
          refine lv_iload hx hb d_Mo_advance_125 (lv_at hl 4 rfl) ?_
          refine ga_19 (x := (G 19 ((((G 17 ((G 19 264).toNatClampNeg)) >>> (24 &&& 31)) &&& 7).toNatClampNeg))) hC hB hok.1 rfl d_Mo_advance_127 ?_
          have hok := hok.2
          refine lv_if_eq (tgt := 145) hx hb d_Mo_advance_128 (by decide) (fun c13 => ?_) (fun c13 => ?_)
          · have hf := hf.trans (if_pos c13)
            refine lv_iload hx hb d_Mo_advance_145 (lv_at hl 0 rfl) ?_
            refine lv_istore (lv' := [(9, .int (((G 19 264) + 1) &&& 63)), (8, .int (((G 17 ((G 19 264).toNatClampNeg)) <<< (16 &&& 31)) >>> (16 &&& 31))), (7, .int (((G 17 ((G 19 264).toNatClampNeg)) >>> (16 &&& 31)) &&& 7)), (6, .int (((G 17 ((G 19 264).toNatClampNeg)) >>> (20 &&& 31)) &&& 7)), (5, .int (((G 17 ((G 19 264).toNatClampNeg)) >>> (24 &&& 31)) &&& 7)), (4, .int (f_Mo_kindOf G (G 17 ((G 19 264).toNatClampNeg)))), (3, .int (G 17 ((G 19 264).toNatClampNeg))), (0, .ref (ad 16)), (1, .ref (ad 19)), (2, .int p2)]) hx hb d_Mo_advance_147 hl (by decide) rfl (fun ls hl => ?_)
            refine lv_goto (tgt := 321) hx hb d_Mo_advance_149 (by decide) ?_
            refine lv_aload_n hx hb d_Mo_advance_321 rfl (lv_at hl 8 rfl) ?_
            refine lv_sipush (v := 264) hx hb d_Mo_advance_322 (by decide) ?_
            refine lv_iload hx hb d_Mo_advance_325 (lv_at hl 0 rfl) ?_
            refine gs_19 hC hB (by decide) d_Mo_advance_327 (fun H locs hB => ?_)
            refine lv_iconst (v := 1) hx hb d_Mo_advance_328 (by decide) ?_
            exact g_zret hC hB hr hlk (by decide) (by decide) (by decide) (by rw [hf]) (by rw [hf]) d_Mo_advance_329
          · have hf := hf.trans (if_neg c13)
            refine lv_aload_n hx hb d_Mo_advance_131 rfl (lv_at hl 8 rfl) ?_
            refine lv_sipush (v := 264) hx hb d_Mo_advance_132 (by decide) ?_
            refine ga_19 (x := (G 19 264)) hC hB (by decide) rfl d_Mo_advance_135 ?_
            refine lv_iload hx hb d_Mo_advance_136 (lv_at hl 1 rfl) ?_
            refine lv_iadd hx hb d_Mo_advance_138 ?_
            refine lv_bipush (v := 63) hx hb d_Mo_advance_139 (by decide) ?_
            refine lv_iand hx hb d_Mo_advance_141 ?_
            refine lv_goto (tgt := 147) hx hb d_Mo_advance_142 (by decide) ?_
            refine lv_istore (lv' := [(9, .int (((G 19 264) + (((G 17 ((G 19 264).toNatClampNeg)) <<< (16 &&& 31)) >>> (16 &&& 31))) &&& 63)), (8, .int (((G 17 ((G 19 264).toNatClampNeg)) <<< (16 &&& 31)) >>> (16 &&& 31))), (7, .int (((G 17 ((G 19 264).toNatClampNeg)) >>> (16 &&& 31)) &&& 7)), (6, .int (((G 17 ((G 19 264).toNatClampNeg)) >>> (20 &&& 31)) &&& 7)), (5, .int (((G 17 ((G 19 264).toNatClampNeg)) >>> (24 &&& 31)) &&& 7)), (4, .int (f_Mo_kindOf G (G 17 ((G 19 264).toNatClampNeg)))), (3, .int (G 17 ((G 19 264).toNatClampNeg))), (0, .ref (ad 16)), (1, .ref (ad 19)), (2, .int p2)]) hx hb d_Mo_advance_147 hl (by decide) rfl (fun ls hl => ?_)
            refine lv_goto (tgt := 321) hx hb d_Mo_advance_149 (by decide) ?_
            refine lv_aload_n hx hb d_Mo_advance_321 rfl (lv_at hl 8 rfl) ?_
            refine lv_sipush (v := 264) hx hb d_Mo_advance_322 (by decide) ?_
            refine lv_iload hx hb d_Mo_advance_325 (lv_at hl 0 rfl) ?_
            refine gs_19 hC hB (by decide) d_Mo_advance_327 (fun H locs hB => ?_)
            refine lv_iconst (v := 1) hx hb d_Mo_advance_328 (by decide) ?_
            exact g_zret hC hB hr hlk (by decide) (by decide) (by decide) (by rw [hf]) (by rw [hf]) d_Mo_advance_329
      · have hf := hf.trans (if_neg c4)
        have hok := hok.2 c4
        refine lv_aload_n hx hb d_Mo_advance_88 rfl (lv_at hl 7 rfl) ?_
        refine lv_sipush (v := 268) hx hb d_Mo_advance_89 (by decide) ?_
        refine lv_iload hx hb d_Mo_advance_92 (lv_at hl 4 rfl) ?_
        refine lv_if_ne (tgt := 101) hx hb d_Mo_advance_94 (by decide) (fun c14 => ?_) (fun c14 => ?_)
        · have hf := hf.trans (if_neg c14)
          refine lv_iconst (v := 2) hx hb d_Mo_advance_101 (by decide) ?_
          refine gs_19 hC hB (by decide) d_Mo_advance_102 (fun H locs hB => ?_)
          refine lv_iconst (v := 1) hx hb d_Mo_advance_103 (by decide) ?_
          exact g_zret hC hB hr hlk (by decide) (by decide) (by decide) (by rw [hf]) (by rw [hf]) d_Mo_advance_104
        · have hf := hf.trans (if_pos c14)
          refine lv_iconst (v := 1) hx hb d_Mo_advance_97 (by decide) ?_
          refine lv_goto (tgt := 102) hx hb d_Mo_advance_98 (by decide) ?_
          refine gs_19 hC hB (by decide) d_Mo_advance_102 (fun H locs hB => ?_)
          refine lv_iconst (v := 1) hx hb d_Mo_advance_103 (by decide) ?_
          exact g_zret hC hB hr hlk (by decide) (by decide) (by decide) (by rw [hf]) (by rw [hf]) d_Mo_advance_104
  · have hf := hf.trans (if_pos c1)
    have hok := hok.1 c1
    refine lv_aload_n hx hb d_Mo_advance_65 rfl (lv_at hl 7 rfl) ?_
    refine lv_sipush (v := 265) hx hb d_Mo_advance_66 (by decide) ?_
    refine ga_19 (x := (G 19 265)) hC hB (by decide) rfl d_Mo_advance_69 ?_
    refine lv_iload_n hx hb d_Mo_advance_70 rfl (lv_at hl 8 rfl) ?_
    refine lv_icmp_lt (tgt := 76) hx hb d_Mo_advance_71 (by decide) (fun c15 => ?_) (fun c15 => ?_)
    · have hf := hf.trans (if_pos c15)
      have hok := hok.1 c15
      refine lv_iload hx hb d_Mo_advance_76 (lv_at hl 4 rfl) ?_
      refine lv_if_eq (tgt := 88) hx hb d_Mo_advance_78 (by decide) (fun c16 => ?_) (fun c16 => ?_)
      · have hf := hf.trans (if_pos c16)
        have hok := hok.1 c16
        refine lv_aload_n hx hb d_Mo_advance_88 rfl (lv_at hl 7 rfl) ?_
        refine lv_sipush (v := 268) hx hb d_Mo_advance_89 (by decide) ?_
        refine lv_iload hx hb d_Mo_advance_92 (lv_at hl 4 rfl) ?_
        refine lv_if_ne (tgt := 101) hx hb d_Mo_advance_94 (by decide) (fun c17 => ?_) (fun c17 => ?_)
        · have hf := hf.trans (if_neg c17)
          refine lv_iconst (v := 2) hx hb d_Mo_advance_101 (by decide) ?_
          refine gs_19 hC hB (by decide) d_Mo_advance_102 (fun H locs hB => ?_)
          refine lv_iconst (v := 1) hx hb d_Mo_advance_103 (by decide) ?_
          exact g_zret hC hB hr hlk (by decide) (by decide) (by decide) (by rw [hf]) (by rw [hf]) d_Mo_advance_104
        · have hf := hf.trans (if_pos c17)
          refine lv_iconst (v := 1) hx hb d_Mo_advance_97 (by decide) ?_
          refine lv_goto (tgt := 102) hx hb d_Mo_advance_98 (by decide) ?_
          refine gs_19 hC hB (by decide) d_Mo_advance_102 (fun H locs hB => ?_)
          refine lv_iconst (v := 1) hx hb d_Mo_advance_103 (by decide) ?_
          exact g_zret hC hB hr hlk (by decide) (by decide) (by decide) (by rw [hf]) (by rw [hf]) d_Mo_advance_104
      · have hf := hf.trans (if_neg c16)
        have hok := hok.2 c16
        refine lv_iload hx hb d_Mo_advance_81 (lv_at hl 4 rfl) ?_
        refine lv_bipush (v := 12) hx hb d_Mo_advance_83 (by decide) ?_
        refine lv_icmp_le (tgt := 105) hx hb d_Mo_advance_85 (by decide) (fun c18 => ?_) (fun c18 => ?_)
        · have hf := hf.trans (if_pos c18)
          have hok := hok.1 c18
          refine lv_aload_n hx hb d_Mo_advance_105 rfl (lv_at hl 7 rfl) ?_
          refine lv_sipush (v := 264) hx hb d_Mo_advance_106 (by decide) ?_
          refine ga_19 (x := (G 19 264)) hC hB (by decide) rfl d_Mo_advance_109 ?_
          refine lv_iconst (v := 1) hx hb d_Mo_advance_110 (by decide) ?_
          refine lv_iadd hx hb d_Mo_advance_111 ?_
          refine lv_bipush (v := 63) hx hb d_Mo_advance_112 (by decide) ?_
          refine lv_iand hx hb d_Mo_advance_114 ?_
          refine lv_istore (lv' := [(9, .int (((G 19 264) + 1) &&& 63)), (8, .int (((G 17 ((G 19 264).toNatClampNeg)) <<< (16 &&& 31)) >>> (16 &&& 31))), (7, .int (((G 17 ((G 19 264).toNatClampNeg)) >>> (16 &&& 31)) &&& 7)), (6, .int (((G 17 ((G 19 264).toNatClampNeg)) >>> (20 &&& 31)) &&& 7)), (5, .int (((G 17 ((G 19 264).toNatClampNeg)) >>> (24 &&& 31)) &&& 7)), (4, .int (f_Mo_kindOf G (G 17 ((G 19 264).toNatClampNeg)))), (3, .int (G 17 ((G 19 264).toNatClampNeg))), (0, .ref (ad 16)), (1, .ref (ad 19)), (2, .int p2)]) hx hb d_Mo_advance_115 hl (by decide) rfl (fun ls hl => ?_)
          refine lv_iload hx hb d_Mo_advance_117 (lv_at hl 5 rfl) ?_
          refine lv_bipush (v := 7) hx hb d_Mo_advance_119 (by decide) ?_
          refine lv_icmp_ne (tgt := 152) hx hb d_Mo_advance_121 (by decide) (fun c19 => ?_) (fun c19 => ?_)
          · have hf := hf.trans (if_neg c19)
            have hok := hok.2 c19
            refine lv_iload hx hb d_Mo_advance_152 (lv_at hl 5 rfl) ?_
            refine lv_bipush (v := 9) hx hb d_Mo_advance_154 (by decide) ?_
            refine lv_icmp_ne (tgt := 189) hx hb d_Mo_advance_156 (by decide) (fun c20 => ?_) (fun c20 => ?_)
            · have hf := hf.trans (if_neg c20)
              have hok := hok.2 c20
              refine lv_iload hx hb d_Mo_advance_189 (lv_at hl 5 rfl) ?_
              refine lv_bipush (v := 6) hx hb d_Mo_advance_191 (by decide) ?_
              refine lv_icmp_ne (tgt := 227) hx hb d_Mo_advance_193 (by decide) (fun c21 => ?_) (fun c21 => ?_)
              · have hf := hf.trans (if_neg c21)
                have hok := hok.2 c21
                refine lv_iload hx hb d_Mo_advance_227 (lv_at hl 5 rfl) ?_
                refine lv_iconst (v := 5) hx hb d_Mo_advance_229 (by decide) ?_
                refine lv_icmp_ne (tgt := 252) hx hb d_Mo_advance_230 (by decide) (fun c22 => ?_) (fun c22 => ?_)
                · have hf := hf.trans (if_neg c22)
                  have hok := hok.2 c22
                  refine lv_iload hx hb d_Mo_advance_252 (lv_at hl 5 rfl) ?_
                  refine lv_bipush (v := 8) hx hb d_Mo_advance_254 (by decide) ?_
                  refine lv_icmp_ne (tgt := 272) hx hb d_Mo_advance_256 (by decide) (fun c23 => ?_) (fun c23 => ?_)
                  · have hf := hf.trans (if_neg c23)
                    have hok := hok.2 c23
                    refine lv_iload hx hb d_Mo_advance_272 (lv_at hl 5 rfl) ?_
                    refine lv_aload_n hx hb d_Mo_advance_274 rfl (lv_at hl 8 rfl) ?_
                    refine lv_iload hx hb d_Mo_advance_275 (lv_at hl 3 rfl) ?_
                    refine ga_19 (x := (G 19 ((((G 17 ((G 19 264).toNatClampNeg)) >>> (20 &&& 31)) &&& 7).toNatClampNeg))) hC hB hok.1 rfl d_Mo_advance_277 ?_
                    have hok := hok.2
                    refine lv_aload_n hx hb d_Mo_advance_278 rfl (lv_at hl 8 rfl) ?_
                    refine lv_iload hx hb d_Mo_advance_279 (lv_at hl 2 rfl) ?_
                    refine ga_19 (x := (G 19 ((((G 17 ((G 19 264).toNatClampNeg)) >>> (16 &&& 31)) &&& 7).toNatClampNeg))) hC hB hok.1 rfl d_Mo_advance_281 ?_
                    have hok := hok.2
                    refine lv_iload hx hb d_Mo_advance_282 (lv_at hl 1 rfl) ?_
                    refine g_callSi (As := [.int (f_Mo_kindOf G (G 17 ((G 19 264).toNatClampNeg))), .int (G 19 ((((G 17 ((G 19 264).toNatClampNeg)) >>> (20 &&& 31)) &&& 7).toNatClampNeg)), .int (G 19 ((((G 17 ((G 19 264).toNatClampNeg)) >>> (16 &&& 31)) &&& 7).toNatClampNeg)), .int (((G 17 ((G 19 264).toNatClampNeg)) <<< (16 &&& 31)) >>> (16 &&& 31))]) (rest := []) hC hB (c_Mo_result l (g_up G 16 14 (-1)) (f_Mo_kindOf G (G 17 ((G 19 264).toNatClampNeg))) (G 19 ((((G 17 ((G 19 264).toNatClampNeg)) >>> (20 &&& 31)) &&& 7).toNatClampNeg)) (G 19 ((((G 17 ((G 19 264).toNatClampNeg)) >>> (16 &&& 31)) &&& 7).toNatClampNeg)) (((G 17 ((G 19 264).toNatClampNeg)) <<< (16 &&& 31)) >>> (16 &&& 31)) O) rfl key_Mo_result rfl sta_Mo_result ml_Mo_75 rfl hl.1 ⟨Nat.le_of_ble_eq_true rfl, Nat.le_of_ble_eq_true rfl, Nat.le_of_ble_eq_true rfl, Nat.le_of_ble_eq_true rfl⟩ d_Mo_advance_284 (fun H locs hB => ?_)
                    refine lv_istore (lv' := [(10, .int (f_Mo_result (g_up G 16 14 (-1)) (f_Mo_kindOf G (G 17 ((G 19 264).toNatClampNeg))) (G 19 ((((G 17 ((G 19 264).toNatClampNeg)) >>> (20 &&& 31)) &&& 7).toNatClampNeg)) (G 19 ((((G 17 ((G 19 264).toNatClampNeg)) >>> (16 &&& 31)) &&& 7).toNatClampNeg)) (((G 17 ((G 19 264).toNatClampNeg)) <<< (16 &&& 31)) >>> (16 &&& 31)))), (9, .int (((G 19 264) + 1) &&& 63)), (8, .int (((G 17 ((G 19 264).toNatClampNeg)) <<< (16 &&& 31)) >>> (16 &&& 31))), (7, .int (((G 17 ((G 19 264).toNatClampNeg)) >>> (16 &&& 31)) &&& 7)), (6, .int (((G 17 ((G 19 264).toNatClampNeg)) >>> (20 &&& 31)) &&& 7)), (5, .int (((G 17 ((G 19 264).toNatClampNeg)) >>> (24 &&& 31)) &&& 7)), (4, .int (f_Mo_kindOf G (G 17 ((G 19 264).toNatClampNeg)))), (3, .int (G 17 ((G 19 264).toNatClampNeg))), (0, .ref (ad 16)), (1, .ref (ad 19)), (2, .int p2)]) hx hb d_Mo_advance_287 hl (by decide) rfl (fun ls hl => ?_)
                    refine lv_aload_n hx hb d_Mo_advance_289 rfl (lv_at hl 9 rfl) ?_
                    refine lv_sipush (v := 265) hx hb d_Mo_advance_290 (by decide) ?_
                    refine lv_dup2_11 hx hb d_Mo_advance_293 rfl rfl ?_
                    refine ga_19 (x := (G 19 265)) hC hB (by decide) rfl d_Mo_advance_294 ?_
                    refine lv_iload hx hb d_Mo_advance_295 (lv_at hl 6 rfl) ?_
                    refine lv_bipush (v := 8) hx hb d_Mo_advance_297 (by decide) ?_
                    refine lv_icmp_ne (tgt := 306) hx hb d_Mo_advance_299 (by decide) (fun c24 => ?_) (fun c24 => ?_)
                    · have hf := hf.trans (if_neg c24)
                      have hok := hok.2 c24
                      refine lv_iconst (v := 0) hx hb d_Mo_advance_306 (by decide) ?_
                      refine lv_iadd hx hb d_Mo_advance_307 ?_
                      refine gs_19 hC hB (by decide) d_Mo_advance_308 (fun H locs hB => ?_)
                      refine lv_aload_n hx hb d_Mo_advance_309 rfl (lv_at hl 9 rfl) ?_
                      refine lv_iload hx hb d_Mo_advance_310 (lv_at hl 5 rfl) ?_
                      refine lv_iload hx hb d_Mo_advance_312 (lv_at hl 0 rfl) ?_
                      refine gs_19 hC hB hok.1 d_Mo_advance_314 (fun H locs hB => ?_)
                      have hok := hok.2
                      refine lv_aload_n hx hb d_Mo_advance_315 rfl (lv_at hl 8 rfl) ?_
                      refine lv_iload hx hb d_Mo_advance_316 (lv_at hl 5 rfl) ?_
                      refine gp_16_14 hC hB fl_Mo_72 d_Mo_advance_318 (fun H locs hB => ?_)
                      refine lv_aload_n hx hb d_Mo_advance_321 rfl (lv_at hl 9 rfl) ?_
                      refine lv_sipush (v := 264) hx hb d_Mo_advance_322 (by decide) ?_
                      refine lv_iload hx hb d_Mo_advance_325 (lv_at hl 1 rfl) ?_
                      refine gs_19 hC hB (by decide) d_Mo_advance_327 (fun H locs hB => ?_)
                      refine lv_iconst (v := 1) hx hb d_Mo_advance_328 (by decide) ?_
                      exact g_zret hC hB hr hlk (by decide) (by decide) (by decide) (by rw [hf]) (by rw [hf]) d_Mo_advance_329
                    · have hf := hf.trans (if_pos c24)
                      have hok := hok.1 c24
                      refine lv_iconst (v := 1) hx hb d_Mo_advance_302 (by decide) ?_
                      refine lv_goto (tgt := 307) hx hb d_Mo_advance_303 (by decide) ?_
                      refine lv_iadd hx hb d_Mo_advance_307 ?_
                      refine gs_19 hC hB (by decide) d_Mo_advance_308 (fun H locs hB => ?_)
                      refine lv_aload_n hx hb d_Mo_advance_309 rfl (lv_at hl 9 rfl) ?_
                      refine lv_iload hx hb d_Mo_advance_310 (lv_at hl 5 rfl) ?_
                      refine lv_iload hx hb d_Mo_advance_312 (lv_at hl 0 rfl) ?_
                      refine gs_19 hC hB hok.1 d_Mo_advance_314 (fun H locs hB => ?_)
                      have hok := hok.2
                      refine lv_aload_n hx hb d_Mo_advance_315 rfl (lv_at hl 8 rfl) ?_
                      refine lv_iload hx hb d_Mo_advance_316 (lv_at hl 5 rfl) ?_
                      refine gp_16_14 hC hB fl_Mo_72 d_Mo_advance_318 (fun H locs hB => ?_)
                      refine lv_aload_n hx hb d_Mo_advance_321 rfl (lv_at hl 9 rfl) ?_
                      refine lv_sipush (v := 264) hx hb d_Mo_advance_322 (by decide) ?_
                      refine lv_iload hx hb d_Mo_advance_325 (lv_at hl 1 rfl) ?_
                      refine gs_19 hC hB (by decide) d_Mo_advance_327 (fun H locs hB => ?_)
                      refine lv_iconst (v := 1) hx hb d_Mo_advance_328 (by decide) ?_
                      exact g_zret hC hB hr hlk (by decide) (by decide) (by decide) (by rw [hf]) (by rw [hf]) d_Mo_advance_329
                  · have hf := hf.trans (if_pos c23)
                    have hok := hok.1 c23
                    refine lv_aload_n hx hb d_Mo_advance_259 rfl (lv_at hl 7 rfl) ?_
                    refine gr_16_5 hC hB fl_Mo_13 d_Mo_advance_260 ?_
                    refine lv_aload_n hx hb d_Mo_advance_263 rfl (lv_at hl 8 rfl) ?_
                    refine lv_sipush (v := 265) hx hb d_Mo_advance_264 (by decide) ?_
                    refine ga_19 (x := (G 19 265)) hC hB (by decide) rfl d_Mo_advance_267 ?_
                    refine ga_18 (x := (G 18 ((G 19 265).toNatClampNeg))) hC hB hok.1 rfl d_Mo_advance_268 ?_
                    have hok := hok.2
                    refine lv_goto (tgt := 287) hx hb d_Mo_advance_269 (by decide) ?_
                    refine lv_istore (lv' := [(10, .int (G 18 ((G 19 265).toNatClampNeg))), (9, .int (((G 19 264) + 1) &&& 63)), (8, .int (((G 17 ((G 19 264).toNatClampNeg)) <<< (16 &&& 31)) >>> (16 &&& 31))), (7, .int (((G 17 ((G 19 264).toNatClampNeg)) >>> (16 &&& 31)) &&& 7)), (6, .int (((G 17 ((G 19 264).toNatClampNeg)) >>> (20 &&& 31)) &&& 7)), (5, .int (((G 17 ((G 19 264).toNatClampNeg)) >>> (24 &&& 31)) &&& 7)), (4, .int (f_Mo_kindOf G (G 17 ((G 19 264).toNatClampNeg)))), (3, .int (G 17 ((G 19 264).toNatClampNeg))), (0, .ref (ad 16)), (1, .ref (ad 19)), (2, .int p2)]) hx hb d_Mo_advance_287 hl (by decide) rfl (fun ls hl => ?_)
                    refine lv_aload_n hx hb d_Mo_advance_289 rfl (lv_at hl 9 rfl) ?_
                    refine lv_sipush (v := 265) hx hb d_Mo_advance_290 (by decide) ?_
                    refine lv_dup2_11 hx hb d_Mo_advance_293 rfl rfl ?_
                    refine ga_19 (x := (G 19 265)) hC hB (by decide) rfl d_Mo_advance_294 ?_
                    refine lv_iload hx hb d_Mo_advance_295 (lv_at hl 6 rfl) ?_
                    refine lv_bipush (v := 8) hx hb d_Mo_advance_297 (by decide) ?_
                    refine lv_icmp_ne (tgt := 306) hx hb d_Mo_advance_299 (by decide) (fun c25 => ?_) (fun c25 => ?_)
                    · have hf := hf.trans (if_neg c25)
                      have hok := hok.2 c25
                      refine lv_iconst (v := 0) hx hb d_Mo_advance_306 (by decide) ?_
                      refine lv_iadd hx hb d_Mo_advance_307 ?_
                      refine gs_19 hC hB (by decide) d_Mo_advance_308 (fun H locs hB => ?_)
                      refine lv_aload_n hx hb d_Mo_advance_309 rfl (lv_at hl 9 rfl) ?_
                      refine lv_iload hx hb d_Mo_advance_310 (lv_at hl 5 rfl) ?_
                      refine lv_iload hx hb d_Mo_advance_312 (lv_at hl 0 rfl) ?_
                      refine gs_19 hC hB hok.1 d_Mo_advance_314 (fun H locs hB => ?_)
                      have hok := hok.2
                      refine lv_aload_n hx hb d_Mo_advance_315 rfl (lv_at hl 8 rfl) ?_
                      refine lv_iload hx hb d_Mo_advance_316 (lv_at hl 5 rfl) ?_
                      refine gp_16_14 hC hB fl_Mo_72 d_Mo_advance_318 (fun H locs hB => ?_)
                      refine lv_aload_n hx hb d_Mo_advance_321 rfl (lv_at hl 9 rfl) ?_
                      refine lv_sipush (v := 264) hx hb d_Mo_advance_322 (by decide) ?_
                      refine lv_iload hx hb d_Mo_advance_325 (lv_at hl 1 rfl) ?_
                      refine gs_19 hC hB (by decide) d_Mo_advance_327 (fun H locs hB => ?_)
                      refine lv_iconst (v := 1) hx hb d_Mo_advance_328 (by decide) ?_
                      exact g_zret hC hB hr hlk (by decide) (by decide) (by decide) (by rw [hf]) (by rw [hf]) d_Mo_advance_329
                    · have hf := hf.trans (if_pos c25)
                      have hok := hok.1 c25
                      refine lv_iconst (v := 1) hx hb d_Mo_advance_302 (by decide) ?_
                      refine lv_goto (tgt := 307) hx hb d_Mo_advance_303 (by decide) ?_
                      refine lv_iadd hx hb d_Mo_advance_307 ?_
                      refine gs_19 hC hB (by decide) d_Mo_advance_308 (fun H locs hB => ?_)
                      refine lv_aload_n hx hb d_Mo_advance_309 rfl (lv_at hl 9 rfl) ?_
                      refine lv_iload hx hb d_Mo_advance_310 (lv_at hl 5 rfl) ?_
                      refine lv_iload hx hb d_Mo_advance_312 (lv_at hl 0 rfl) ?_
                      refine gs_19 hC hB hok.1 d_Mo_advance_314 (fun H locs hB => ?_)
                      have hok := hok.2
                      refine lv_aload_n hx hb d_Mo_advance_315 rfl (lv_at hl 8 rfl) ?_
                      refine lv_iload hx hb d_Mo_advance_316 (lv_at hl 5 rfl) ?_
                      refine gp_16_14 hC hB fl_Mo_72 d_Mo_advance_318 (fun H locs hB => ?_)
                      refine lv_aload_n hx hb d_Mo_advance_321 rfl (lv_at hl 9 rfl) ?_
                      refine lv_sipush (v := 264) hx hb d_Mo_advance_322 (by decide) ?_
                      refine lv_iload hx hb d_Mo_advance_325 (lv_at hl 1 rfl) ?_
                      refine gs_19 hC hB (by decide) d_Mo_advance_327 (fun H locs hB => ?_)
                      refine lv_iconst (v := 1) hx hb d_Mo_advance_328 (by decide) ?_
                      exact g_zret hC hB hr hlk (by decide) (by decide) (by decide) (by rw [hf]) (by rw [hf]) d_Mo_advance_329
                · have hf := hf.trans (if_pos c22)
                  have hok := hok.1 c22
                  refine lv_aload_n hx hb d_Mo_advance_233 rfl (lv_at hl 8 rfl) ?_
                  refine lv_bipush (v := 8) hx hb d_Mo_advance_234 (by decide) ?_
                  refine lv_aload_n hx hb d_Mo_advance_236 rfl (lv_at hl 8 rfl) ?_
                  refine lv_iload hx hb d_Mo_advance_237 (lv_at hl 3 rfl) ?_
                  refine ga_19 (x := (G 19 ((((G 17 ((G 19 264).toNatClampNeg)) >>> (20 &&& 31)) &&& 7).toNatClampNeg))) hC hB hok.1 rfl d_Mo_advance_239 ?_
                  have hok := hok.2
                  refine lv_iload hx hb d_Mo_advance_240 (lv_at hl 1 rfl) ?_
                  refine lv_iadd hx hb d_Mo_advance_242 ?_
                  refine lv_sipush (v := 255) hx hb d_Mo_advance_243 (by decide) ?_
                  refine lv_iand hx hb d_Mo_advance_246 ?_
                  refine lv_iadd hx hb d_Mo_advance_247 ?_
                  refine ga_19 (x := (G 19 ((8 + (((G 19 ((((G 17 ((G 19 264).toNatClampNeg)) >>> (20 &&& 31)) &&& 7).toNatClampNeg)) + (((G 17 ((G 19 264).toNatClampNeg)) <<< (16 &&& 31)) >>> (16 &&& 31))) &&& 255)).toNatClampNeg))) hC hB hok.1 rfl d_Mo_advance_248 ?_
                  have hok := hok.2
                  refine lv_goto (tgt := 287) hx hb d_Mo_advance_249 (by decide) ?_
                  refine lv_istore (lv' := [(10, .int (G 19 ((8 + (((G 19 ((((G 17 ((G 19 264).toNatClampNeg)) >>> (20 &&& 31)) &&& 7).toNatClampNeg)) + (((G 17 ((G 19 264).toNatClampNeg)) <<< (16 &&& 31)) >>> (16 &&& 31))) &&& 255)).toNatClampNeg))), (9, .int (((G 19 264) + 1) &&& 63)), (8, .int (((G 17 ((G 19 264).toNatClampNeg)) <<< (16 &&& 31)) >>> (16 &&& 31))), (7, .int (((G 17 ((G 19 264).toNatClampNeg)) >>> (16 &&& 31)) &&& 7)), (6, .int (((G 17 ((G 19 264).toNatClampNeg)) >>> (20 &&& 31)) &&& 7)), (5, .int (((G 17 ((G 19 264).toNatClampNeg)) >>> (24 &&& 31)) &&& 7)), (4, .int (f_Mo_kindOf G (G 17 ((G 19 264).toNatClampNeg)))), (3, .int (G 17 ((G 19 264).toNatClampNeg))), (0, .ref (ad 16)), (1, .ref (ad 19)), (2, .int p2)]) hx hb d_Mo_advance_287 hl (by decide) rfl (fun ls hl => ?_)
                  refine lv_aload_n hx hb d_Mo_advance_289 rfl (lv_at hl 9 rfl) ?_
                  refine lv_sipush (v := 265) hx hb d_Mo_advance_290 (by decide) ?_
                  refine lv_dup2_11 hx hb d_Mo_advance_293 rfl rfl ?_
                  refine ga_19 (x := (G 19 265)) hC hB (by decide) rfl d_Mo_advance_294 ?_
                  refine lv_iload hx hb d_Mo_advance_295 (lv_at hl 6 rfl) ?_
                  refine lv_bipush (v := 8) hx hb d_Mo_advance_297 (by decide) ?_
                  refine lv_icmp_ne (tgt := 306) hx hb d_Mo_advance_299 (by decide) (fun c26 => ?_) (fun c26 => ?_)
                  · have hf := hf.trans (if_neg c26)
                    have hok := hok.2 c26
                    refine lv_iconst (v := 0) hx hb d_Mo_advance_306 (by decide) ?_
                    refine lv_iadd hx hb d_Mo_advance_307 ?_
                    refine gs_19 hC hB (by decide) d_Mo_advance_308 (fun H locs hB => ?_)
                    refine lv_aload_n hx hb d_Mo_advance_309 rfl (lv_at hl 9 rfl) ?_
                    refine lv_iload hx hb d_Mo_advance_310 (lv_at hl 5 rfl) ?_
                    refine lv_iload hx hb d_Mo_advance_312 (lv_at hl 0 rfl) ?_
                    refine gs_19 hC hB hok.1 d_Mo_advance_314 (fun H locs hB => ?_)
                    have hok := hok.2
                    refine lv_aload_n hx hb d_Mo_advance_315 rfl (lv_at hl 8 rfl) ?_
                    refine lv_iload hx hb d_Mo_advance_316 (lv_at hl 5 rfl) ?_
                    refine gp_16_14 hC hB fl_Mo_72 d_Mo_advance_318 (fun H locs hB => ?_)
                    refine lv_aload_n hx hb d_Mo_advance_321 rfl (lv_at hl 9 rfl) ?_
                    refine lv_sipush (v := 264) hx hb d_Mo_advance_322 (by decide) ?_
                    refine lv_iload hx hb d_Mo_advance_325 (lv_at hl 1 rfl) ?_
                    refine gs_19 hC hB (by decide) d_Mo_advance_327 (fun H locs hB => ?_)
                    refine lv_iconst (v := 1) hx hb d_Mo_advance_328 (by decide) ?_
                    exact g_zret hC hB hr hlk (by decide) (by decide) (by decide) (by rw [hf]) (by rw [hf]) d_Mo_advance_329
                  · have hf := hf.trans (if_pos c26)
                    have hok := hok.1 c26
                    refine lv_iconst (v := 1) hx hb d_Mo_advance_302 (by decide) ?_
                    refine lv_goto (tgt := 307) hx hb d_Mo_advance_303 (by decide) ?_
                    refine lv_iadd hx hb d_Mo_advance_307 ?_
                    refine gs_19 hC hB (by decide) d_Mo_advance_308 (fun H locs hB => ?_)
                    refine lv_aload_n hx hb d_Mo_advance_309 rfl (lv_at hl 9 rfl) ?_
                    refine lv_iload hx hb d_Mo_advance_310 (lv_at hl 5 rfl) ?_
                    refine lv_iload hx hb d_Mo_advance_312 (lv_at hl 0 rfl) ?_
                    refine gs_19 hC hB hok.1 d_Mo_advance_314 (fun H locs hB => ?_)
                    have hok := hok.2
                    refine lv_aload_n hx hb d_Mo_advance_315 rfl (lv_at hl 8 rfl) ?_
                    refine lv_iload hx hb d_Mo_advance_316 (lv_at hl 5 rfl) ?_
                    refine gp_16_14 hC hB fl_Mo_72 d_Mo_advance_318 (fun H locs hB => ?_)
                    refine lv_aload_n hx hb d_Mo_advance_321 rfl (lv_at hl 9 rfl) ?_
                    refine lv_sipush (v := 264) hx hb d_Mo_advance_322 (by decide) ?_
                    refine lv_iload hx hb d_Mo_advance_325 (lv_at hl 1 rfl) ?_
                    refine gs_19 hC hB (by decide) d_Mo_advance_327 (fun H locs hB => ?_)
                    refine lv_iconst (v := 1) hx hb d_Mo_advance_328 (by decide) ?_
                    exact g_zret hC hB hr hlk (by decide) (by decide) (by decide) (by rw [hf]) (by rw [hf]) d_Mo_advance_329
              · have hf := hf.trans (if_pos c21)
                have hok := hok.1 c21
                refine lv_aload_n hx hb d_Mo_advance_196 rfl (lv_at hl 7 rfl) ?_
                refine lv_bipush (v := 8) hx hb d_Mo_advance_197 (by decide) ?_
                refine lv_aload_n hx hb d_Mo_advance_199 rfl (lv_at hl 8 rfl) ?_
                refine lv_iload hx hb d_Mo_advance_200 (lv_at hl 3 rfl) ?_
                refine ga_19 (x := (G 19 ((((G 17 ((G 19 264).toNatClampNeg)) >>> (20 &&& 31)) &&& 7).toNatClampNeg))) hC hB hok.1 rfl d_Mo_advance_202 ?_
                have hok := hok.2
                refine lv_iload hx hb d_Mo_advance_203 (lv_at hl 1 rfl) ?_
                refine lv_iadd hx hb d_Mo_advance_205 ?_
                refine lv_sipush (v := 255) hx hb d_Mo_advance_206 (by decide) ?_
                refine lv_iand hx hb d_Mo_advance_209 ?_
                refine lv_iadd hx hb d_Mo_advance_210 ?_
                refine gp_16_14 hC hB fl_Mo_72 d_Mo_advance_211 (fun H locs hB => ?_)
                refine lv_aload_n hx hb d_Mo_advance_214 rfl (lv_at hl 8 rfl) ?_
                refine lv_aload_n hx hb d_Mo_advance_215 rfl (lv_at hl 7 rfl) ?_
                refine gg_16_14 (x := 8 + (((G 19 ((((G 17 ((G 19 264).toNatClampNeg)) >>> (20 &&& 31)) &&& 7).toNatClampNeg)) + (((G 17 ((G 19 264).toNatClampNeg)) <<< (16 &&& 31)) >>> (16 &&& 31))) &&& 255)) hC hB rfl fl_Mo_72 d_Mo_advance_216 ?_
                refine lv_aload_n hx hb d_Mo_advance_219 rfl (lv_at hl 8 rfl) ?_
                refine lv_iload hx hb d_Mo_advance_220 (lv_at hl 4 rfl) ?_
                refine ga_19 (x := (G 19 ((((G 17 ((G 19 264).toNatClampNeg)) >>> (24 &&& 31)) &&& 7).toNatClampNeg))) hC hB hok.1 rfl d_Mo_advance_222 ?_
                have hok := hok.2
                refine gs_19 hC hB hok.1 d_Mo_advance_223 (fun H locs hB => ?_)
                have hok := hok.2
                refine lv_goto (tgt := 321) hx hb d_Mo_advance_224 (by decide) ?_
                refine lv_aload_n hx hb d_Mo_advance_321 rfl (lv_at hl 8 rfl) ?_
                refine lv_sipush (v := 264) hx hb d_Mo_advance_322 (by decide) ?_
                refine lv_iload hx hb d_Mo_advance_325 (lv_at hl 0 rfl) ?_
                refine gs_19 hC hB (by decide) d_Mo_advance_327 (fun H locs hB => ?_)
                refine lv_iconst (v := 1) hx hb d_Mo_advance_328 (by decide) ?_
                exact g_zret hC hB hr hlk (by decide) (by decide) (by decide) (by rw [hf]) (by rw [hf]) d_Mo_advance_329
            · have hf := hf.trans (if_pos c20)
              have hok := hok.1 c20
              refine lv_aload_n hx hb d_Mo_advance_159 rfl (lv_at hl 8 rfl) ?_
              refine lv_sipush (v := 266) hx hb d_Mo_advance_160 (by decide) ?_
              refine lv_dup2_11 hx hb d_Mo_advance_163 rfl rfl ?_
              refine ga_19 (x := (G 19 266)) hC hB (by decide) rfl d_Mo_advance_164 ?_
              refine lv_iconst (v := 1) hx hb d_Mo_advance_165 (by decide) ?_
              refine lv_iadd hx hb d_Mo_advance_166 ?_
              refine gs_19 hC hB (by decide) d_Mo_advance_167 (fun H locs hB => ?_)
              refine lv_aload_n hx hb d_Mo_advance_168 rfl (lv_at hl 8 rfl) ?_
              refine lv_sipush (v := 267) hx hb d_Mo_advance_169 (by decide) ?_
              refine lv_bipush (v := 31) hx hb d_Mo_advance_172 (by decide) ?_
              refine lv_aload_n hx hb d_Mo_advance_174 rfl (lv_at hl 8 rfl) ?_
              refine lv_sipush (v := 267) hx hb d_Mo_advance_175 (by decide) ?_
              refine ga_19 (x := (G 19 267)) hC hB (by decide) rfl d_Mo_advance_178 ?_
              refine lv_imul hx hb d_Mo_advance_179 ?_
              refine lv_aload_n hx hb d_Mo_advance_180 rfl (lv_at hl 8 rfl) ?_
              refine lv_iload hx hb d_Mo_advance_181 (lv_at hl 4 rfl) ?_
              refine ga_19 (x := ((g_up (g_up G 16 14 (-1)) 19 266 ((G 19 266) + 1)) 19 ((((G 17 ((G 19 264).toNatClampNeg)) >>> (24 &&& 31)) &&& 7).toNatClampNeg))) hC hB hok.1 rfl d_Mo_advance_183 ?_
              have hok := hok.2
              refine lv_iadd hx hb d_Mo_advance_184 ?_
              refine gs_19 hC hB (by decide) d_Mo_advance_185 (fun H locs hB => ?_)
              refine lv_goto (tgt := 321) hx hb d_Mo_advance_186 (by decide) ?_
              refine lv_aload_n hx hb d_Mo_advance_321 rfl (lv_at hl 8 rfl) ?_
              refine lv_sipush (v := 264) hx hb d_Mo_advance_322 (by decide) ?_
              refine lv_iload hx hb d_Mo_advance_325 (lv_at hl 0 rfl) ?_
              refine gs_19 hC hB (by decide) d_Mo_advance_327 (fun H locs hB => ?_)
              refine lv_iconst (v := 1) hx hb d_Mo_advance_328 (by decide) ?_
              exact g_zret hC hB hr hlk (by decide) (by decide) (by decide) (by rw [hf]) (by rw [hf]) d_Mo_advance_329
          · have hf := hf.trans (if_pos c19)
            have hok := hok.1 c19
            refine lv_aload_n hx hb d_Mo_advance_124 rfl (lv_at hl 8 rfl) ?_
            refine lv_iload hx hb d_Mo_advance_125 (lv_at hl 4 rfl) ?_
            refine ga_19 (x := (G 19 ((((G 17 ((G 19 264).toNatClampNeg)) >>> (24 &&& 31)) &&& 7).toNatClampNeg))) hC hB hok.1 rfl d_Mo_advance_127 ?_
            have hok := hok.2
            refine lv_if_eq (tgt := 145) hx hb d_Mo_advance_128 (by decide) (fun c27 => ?_) (fun c27 => ?_)
            · have hf := hf.trans (if_pos c27)
              refine lv_iload hx hb d_Mo_advance_145 (lv_at hl 0 rfl) ?_
              refine lv_istore (lv' := [(9, .int (((G 19 264) + 1) &&& 63)), (8, .int (((G 17 ((G 19 264).toNatClampNeg)) <<< (16 &&& 31)) >>> (16 &&& 31))), (7, .int (((G 17 ((G 19 264).toNatClampNeg)) >>> (16 &&& 31)) &&& 7)), (6, .int (((G 17 ((G 19 264).toNatClampNeg)) >>> (20 &&& 31)) &&& 7)), (5, .int (((G 17 ((G 19 264).toNatClampNeg)) >>> (24 &&& 31)) &&& 7)), (4, .int (f_Mo_kindOf G (G 17 ((G 19 264).toNatClampNeg)))), (3, .int (G 17 ((G 19 264).toNatClampNeg))), (0, .ref (ad 16)), (1, .ref (ad 19)), (2, .int p2)]) hx hb d_Mo_advance_147 hl (by decide) rfl (fun ls hl => ?_)
              refine lv_goto (tgt := 321) hx hb d_Mo_advance_149 (by decide) ?_
              refine lv_aload_n hx hb d_Mo_advance_321 rfl (lv_at hl 8 rfl) ?_
              refine lv_sipush (v := 264) hx hb d_Mo_advance_322 (by decide) ?_
              refine lv_iload hx hb d_Mo_advance_325 (lv_at hl 0 rfl) ?_
              refine gs_19 hC hB (by decide) d_Mo_advance_327 (fun H locs hB => ?_)
              refine lv_iconst (v := 1) hx hb d_Mo_advance_328 (by decide) ?_
              exact g_zret hC hB hr hlk (by decide) (by decide) (by decide) (by rw [hf]) (by rw [hf]) d_Mo_advance_329
            · have hf := hf.trans (if_neg c27)
              refine lv_aload_n hx hb d_Mo_advance_131 rfl (lv_at hl 8 rfl) ?_
              refine lv_sipush (v := 264) hx hb d_Mo_advance_132 (by decide) ?_
              refine ga_19 (x := (G 19 264)) hC hB (by decide) rfl d_Mo_advance_135 ?_
              refine lv_iload hx hb d_Mo_advance_136 (lv_at hl 1 rfl) ?_
              refine lv_iadd hx hb d_Mo_advance_138 ?_
              refine lv_bipush (v := 63) hx hb d_Mo_advance_139 (by decide) ?_
              refine lv_iand hx hb d_Mo_advance_141 ?_
              refine lv_goto (tgt := 147) hx hb d_Mo_advance_142 (by decide) ?_
              refine lv_istore (lv' := [(9, .int (((G 19 264) + (((G 17 ((G 19 264).toNatClampNeg)) <<< (16 &&& 31)) >>> (16 &&& 31))) &&& 63)), (8, .int (((G 17 ((G 19 264).toNatClampNeg)) <<< (16 &&& 31)) >>> (16 &&& 31))), (7, .int (((G 17 ((G 19 264).toNatClampNeg)) >>> (16 &&& 31)) &&& 7)), (6, .int (((G 17 ((G 19 264).toNatClampNeg)) >>> (20 &&& 31)) &&& 7)), (5, .int (((G 17 ((G 19 264).toNatClampNeg)) >>> (24 &&& 31)) &&& 7)), (4, .int (f_Mo_kindOf G (G 17 ((G 19 264).toNatClampNeg)))), (3, .int (G 17 ((G 19 264).toNatClampNeg))), (0, .ref (ad 16)), (1, .ref (ad 19)), (2, .int p2)]) hx hb d_Mo_advance_147 hl (by decide) rfl (fun ls hl => ?_)
              refine lv_goto (tgt := 321) hx hb d_Mo_advance_149 (by decide) ?_
              refine lv_aload_n hx hb d_Mo_advance_321 rfl (lv_at hl 8 rfl) ?_
              refine lv_sipush (v := 264) hx hb d_Mo_advance_322 (by decide) ?_
              refine lv_iload hx hb d_Mo_advance_325 (lv_at hl 0 rfl) ?_
              refine gs_19 hC hB (by decide) d_Mo_advance_327 (fun H locs hB => ?_)
              refine lv_iconst (v := 1) hx hb d_Mo_advance_328 (by decide) ?_
              exact g_zret hC hB hr hlk (by decide) (by decide) (by decide) (by rw [hf]) (by rw [hf]) d_Mo_advance_329
        · have hf := hf.trans (if_neg c18)
          have hok := hok.2 c18
          refine lv_aload_n hx hb d_Mo_advance_88 rfl (lv_at hl 7 rfl) ?_
          refine lv_sipush (v := 268) hx hb d_Mo_advance_89 (by decide) ?_
          refine lv_iload hx hb d_Mo_advance_92 (lv_at hl 4 rfl) ?_
          refine lv_if_ne (tgt := 101) hx hb d_Mo_advance_94 (by decide) (fun c28 => ?_) (fun c28 => ?_)
          · have hf := hf.trans (if_neg c28)
            refine lv_iconst (v := 2) hx hb d_Mo_advance_101 (by decide) ?_
            refine gs_19 hC hB (by decide) d_Mo_advance_102 (fun H locs hB => ?_)
            refine lv_iconst (v := 1) hx hb d_Mo_advance_103 (by decide) ?_
            exact g_zret hC hB hr hlk (by decide) (by decide) (by decide) (by rw [hf]) (by rw [hf]) d_Mo_advance_104
          · have hf := hf.trans (if_pos c28)
            refine lv_iconst (v := 1) hx hb d_Mo_advance_97 (by decide) ?_
            refine lv_goto (tgt := 102) hx hb d_Mo_advance_98 (by decide) ?_
            refine gs_19 hC hB (by decide) d_Mo_advance_102 (fun H locs hB => ?_)
            refine lv_iconst (v := 1) hx hb d_Mo_advance_103 (by decide) ?_
            exact g_zret hC hB hr hlk (by decide) (by decide) (by decide) (by rw [hf]) (by rw [hf]) d_Mo_advance_104
    · have hf := hf.trans (if_neg c15)
      have hok := hok.2 c15
      refine lv_iconst (v := 0) hx hb d_Mo_advance_74 (by decide) ?_
      exact g_zret hC hB hr hlk (by decide) (by decide) (by decide) (by rw [hf]) (by rw [hf]) d_Mo_advance_75
abbrev rm_Mo_costOf : Room := { frames := 1, cells := 0, slots := 0, locals := 12 }
def f_Mo_costOf (G : gT) : Int32 := (if (G 16 14) < 0 then (if (G 19 264) = (((G 21 (((269 * (f_Mo_slot G (G 16 11))) + 264).toNatClampNeg)) + 1) &&& 63) then (((1 + 0) + 0) + ((G 19 265) - (G 21 (((269 * (f_Mo_slot G (G 16 11))) + 265).toNatClampNeg)))) + ((G 19 266) - (G 21 (((269 * (f_Mo_slot G (G 16 11))) + 266).toNatClampNeg))) else (((1 + 0) + 1) + ((G 19 265) - (G 21 (((269 * (f_Mo_slot G (G 16 11))) + 265).toNatClampNeg)))) + ((G 19 266) - (G 21 (((269 * (f_Mo_slot G (G 16 11))) + 266).toNatClampNeg)))) else (if (G 19 ((G 16 14).toNatClampNeg)) = (G 21 (((269 * (f_Mo_slot G (G 16 11))) + (G 16 14)).toNatClampNeg)) then (if (G 19 264) = (((G 21 (((269 * (f_Mo_slot G (G 16 11))) + 264).toNatClampNeg)) + 1) &&& 63) then (((1 + 0) + 0) + ((G 19 265) - (G 21 (((269 * (f_Mo_slot G (G 16 11))) + 265).toNatClampNeg)))) + ((G 19 266) - (G 21 (((269 * (f_Mo_slot G (G 16 11))) + 266).toNatClampNeg))) else (((1 + 0) + 1) + ((G 19 265) - (G 21 (((269 * (f_Mo_slot G (G 16 11))) + 265).toNatClampNeg)))) + ((G 19 266) - (G 21 (((269 * (f_Mo_slot G (G 16 11))) + 266).toNatClampNeg)))) else (if (G 19 264) = (((G 21 (((269 * (f_Mo_slot G (G 16 11))) + 264).toNatClampNeg)) + 1) &&& 63) then (((1 + 1) + 0) + ((G 19 265) - (G 21 (((269 * (f_Mo_slot G (G 16 11))) + 265).toNatClampNeg)))) + ((G 19 266) - (G 21 (((269 * (f_Mo_slot G (G 16 11))) + 266).toNatClampNeg))) else (((1 + 1) + 1) + ((G 19 265) - (G 21 (((269 * (f_Mo_slot G (G 16 11))) + 265).toNatClampNeg)))) + ((G 19 266) - (G 21 (((269 * (f_Mo_slot G (G 16 11))) + 266).toNatClampNeg))))))
def ok_Mo_costOf (G : gT) : Prop := (((G 16 14) < 0 → (vp_in ((269 * (f_Mo_slot G (G 16 11))) + 264) 275725 ∧ (((G 19 264) = (((G 21 (((269 * (f_Mo_slot G (G 16 11))) + 264).toNatClampNeg)) + 1) &&& 63) → (vp_in ((269 * (f_Mo_slot G (G 16 11))) + 265) 275725 ∧ (vp_in ((269 * (f_Mo_slot G (G 16 11))) + 266) 275725 ∧ True))) ∧ (¬ (G 19 264) = (((G 21 (((269 * (f_Mo_slot G (G 16 11))) + 264).toNatClampNeg)) + 1) &&& 63) → (vp_in ((269 * (f_Mo_slot G (G 16 11))) + 265) 275725 ∧ (vp_in ((269 * (f_Mo_slot G (G 16 11))) + 266) 275725 ∧ True)))))) ∧ (¬ (G 16 14) < 0 → (vp_in (G 16 14) 269 ∧ (vp_in ((269 * (f_Mo_slot G (G 16 11))) + (G 16 14)) 275725 ∧ (((G 19 ((G 16 14).toNatClampNeg)) = (G 21 (((269 * (f_Mo_slot G (G 16 11))) + (G 16 14)).toNatClampNeg)) → (vp_in ((269 * (f_Mo_slot G (G 16 11))) + 264) 275725 ∧ (((G 19 264) = (((G 21 (((269 * (f_Mo_slot G (G 16 11))) + 264).toNatClampNeg)) + 1) &&& 63) → (vp_in ((269 * (f_Mo_slot G (G 16 11))) + 265) 275725 ∧ (vp_in ((269 * (f_Mo_slot G (G 16 11))) + 266) 275725 ∧ True))) ∧ (¬ (G 19 264) = (((G 21 (((269 * (f_Mo_slot G (G 16 11))) + 264).toNatClampNeg)) + 1) &&& 63) → (vp_in ((269 * (f_Mo_slot G (G 16 11))) + 265) 275725 ∧ (vp_in ((269 * (f_Mo_slot G (G 16 11))) + 266) 275725 ∧ True)))))) ∧ (¬ (G 19 ((G 16 14).toNatClampNeg)) = (G 21 (((269 * (f_Mo_slot G (G 16 11))) + (G 16 14)).toNatClampNeg)) → (vp_in ((269 * (f_Mo_slot G (G 16 11))) + 264) 275725 ∧ (((G 19 264) = (((G 21 (((269 * (f_Mo_slot G (G 16 11))) + 264).toNatClampNeg)) + 1) &&& 63) → (vp_in ((269 * (f_Mo_slot G (G 16 11))) + 265) 275725 ∧ (vp_in ((269 * (f_Mo_slot G (G 16 11))) + 266) 275725 ∧ True))) ∧ (¬ (G 19 264) = (((G 21 (((269 * (f_Mo_slot G (G 16 11))) + 264).toNatClampNeg)) + 1) &&& 63) → (vp_in ((269 * (f_Mo_slot G (G 16 11))) + 265) 275725 ∧ (vp_in ((269 * (f_Mo_slot G (G 16 11))) + 266) 275725 ∧ True)))))))))))
set_option maxHeartbeats 4000000 in
set_option maxRecDepth 100000 in
theorem c_Mo_costOf (l : Launch) (G : gT) (O : Int64) (hok : ok_Mo_costOf G) : gMet l y_Mo_costOf w_Mo_costOf rm_Mo_costOf (fun ad => [.ref (ad 16)]) G O (.inl (some (.int (f_Mo_costOf G)))) G O := by
  refine g_body (by decide) (gCode_of _ _ _ _) (fun ad => by simp [lg_sl, Value.category]) ?_
  intro p e s0 s m args below meth c D cI cL ad hC hr hlk htb hB ls hl
  have hC : CallFix p m c b_Mo_costOf 3 s args gtb R_Mo := hC
  have hl : lv_has ls 3 [(0, .ref (ad 16))] := hl
  have hx := hC.1
  have hb := hC.2.1
  have hf : f_Mo_costOf G = (if (G 16 14) < 0 then (if (G 19 264) = (((G 21 (((269 * (f_Mo_slot G (G 16 11))) + 264).toNatClampNeg)) + 1) &&& 63) then (((1 + 0) + 0) + ((G 19 265) - (G 21 (((269 * (f_Mo_slot G (G 16 11))) + 265).toNatClampNeg)))) + ((G 19 266) - (G 21 (((269 * (f_Mo_slot G (G 16 11))) + 266).toNatClampNeg))) else (((1 + 0) + 1) + ((G 19 265) - (G 21 (((269 * (f_Mo_slot G (G 16 11))) + 265).toNatClampNeg)))) + ((G 19 266) - (G 21 (((269 * (f_Mo_slot G (G 16 11))) + 266).toNatClampNeg)))) else (if (G 19 ((G 16 14).toNatClampNeg)) = (G 21 (((269 * (f_Mo_slot G (G 16 11))) + (G 16 14)).toNatClampNeg)) then (if (G 19 264) = (((G 21 (((269 * (f_Mo_slot G (G 16 11))) + 264).toNatClampNeg)) + 1) &&& 63) then (((1 + 0) + 0) + ((G 19 265) - (G 21 (((269 * (f_Mo_slot G (G 16 11))) + 265).toNatClampNeg)))) + ((G 19 266) - (G 21 (((269 * (f_Mo_slot G (G 16 11))) + 266).toNatClampNeg))) else (((1 + 0) + 1) + ((G 19 265) - (G 21 (((269 * (f_Mo_slot G (G 16 11))) + 265).toNatClampNeg)))) + ((G 19 266) - (G 21 (((269 * (f_Mo_slot G (G 16 11))) + 266).toNatClampNeg)))) else (if (G 19 264) = (((G 21 (((269 * (f_Mo_slot G (G 16 11))) + 264).toNatClampNeg)) + 1) &&& 63) then (((1 + 1) + 0) + ((G 19 265) - (G 21 (((269 * (f_Mo_slot G (G 16 11))) + 265).toNatClampNeg)))) + ((G 19 266) - (G 21 (((269 * (f_Mo_slot G (G 16 11))) + 266).toNatClampNeg))) else (((1 + 1) + 1) + ((G 19 265) - (G 21 (((269 * (f_Mo_slot G (G 16 11))) + 265).toNatClampNeg)))) + ((G 19 266) - (G 21 (((269 * (f_Mo_slot G (G 16 11))) + 266).toNatClampNeg)))))) := rfl
  have hok : (((G 16 14) < 0 → (vp_in ((269 * (f_Mo_slot G (G 16 11))) + 264) 275725 ∧ (((G 19 264) = (((G 21 (((269 * (f_Mo_slot G (G 16 11))) + 264).toNatClampNeg)) + 1) &&& 63) → (vp_in ((269 * (f_Mo_slot G (G 16 11))) + 265) 275725 ∧ (vp_in ((269 * (f_Mo_slot G (G 16 11))) + 266) 275725 ∧ True))) ∧ (¬ (G 19 264) = (((G 21 (((269 * (f_Mo_slot G (G 16 11))) + 264).toNatClampNeg)) + 1) &&& 63) → (vp_in ((269 * (f_Mo_slot G (G 16 11))) + 265) 275725 ∧ (vp_in ((269 * (f_Mo_slot G (G 16 11))) + 266) 275725 ∧ True)))))) ∧ (¬ (G 16 14) < 0 → (vp_in (G 16 14) 269 ∧ (vp_in ((269 * (f_Mo_slot G (G 16 11))) + (G 16 14)) 275725 ∧ (((G 19 ((G 16 14).toNatClampNeg)) = (G 21 (((269 * (f_Mo_slot G (G 16 11))) + (G 16 14)).toNatClampNeg)) → (vp_in ((269 * (f_Mo_slot G (G 16 11))) + 264) 275725 ∧ (((G 19 264) = (((G 21 (((269 * (f_Mo_slot G (G 16 11))) + 264).toNatClampNeg)) + 1) &&& 63) → (vp_in ((269 * (f_Mo_slot G (G 16 11))) + 265) 275725 ∧ (vp_in ((269 * (f_Mo_slot G (G 16 11))) + 266) 275725 ∧ True))) ∧ (¬ (G 19 264) = (((G 21 (((269 * (f_Mo_slot G (G 16 11))) + 264).toNatClampNeg)) + 1) &&& 63) → (vp_in ((269 * (f_Mo_slot G (G 16 11))) + 265) 275725 ∧ (vp_in ((269 * (f_Mo_slot G (G 16 11))) + 266) 275725 ∧ True)))))) ∧ (¬ (G 19 ((G 16 14).toNatClampNeg)) = (G 21 (((269 * (f_Mo_slot G (G 16 11))) + (G 16 14)).toNatClampNeg)) → (vp_in ((269 * (f_Mo_slot G (G 16 11))) + 264) 275725 ∧ (((G 19 264) = (((G 21 (((269 * (f_Mo_slot G (G 16 11))) + 264).toNatClampNeg)) + 1) &&& 63) → (vp_in ((269 * (f_Mo_slot G (G 16 11))) + 265) 275725 ∧ (vp_in ((269 * (f_Mo_slot G (G 16 11))) + 266) 275725 ∧ True))) ∧ (¬ (G 19 264) = (((G 21 (((269 * (f_Mo_slot G (G 16 11))) + 264).toNatClampNeg)) + 1) &&& 63) → (vp_in ((269 * (f_Mo_slot G (G 16 11))) + 265) 275725 ∧ (vp_in ((269 * (f_Mo_slot G (G 16 11))) + 266) 275725 ∧ True))))))))))) := hok
  refine lv_aload_n hx hb d_Mo_costOf_0 rfl (lv_at hl 0 rfl) ?_
  refine gg_16_11 (x := (G 16 11)) hC hB rfl fl_Mo_57 d_Mo_costOf_1 ?_
  refine g_callSi (As := [.int (G 16 11)]) (rest := []) hC hB (c_Mo_slot l G (G 16 11) O) rfl key_Mo_slot rfl sta_Mo_slot ml_Mo_60 rfl hl.1 ⟨Nat.le_of_ble_eq_true rfl, Nat.le_of_ble_eq_true rfl, Nat.le_of_ble_eq_true rfl, Nat.le_of_ble_eq_true rfl⟩ d_Mo_costOf_4 (fun H locs hB => ?_)
  refine lv_istore_n (lv' := [(1, .int (f_Mo_slot G (G 16 11))), (0, .ref (ad 16))]) hx hb d_Mo_costOf_7 rfl hl (by decide) rfl (fun ls hl => ?_)
  refine lv_iconst (v := 1) hx hb d_Mo_costOf_8 (by decide) ?_
  refine lv_istore_n (lv' := [(2, .int 1), (1, .int (f_Mo_slot G (G 16 11))), (0, .ref (ad 16))]) hx hb d_Mo_costOf_9 rfl hl (by decide) rfl (fun ls hl => ?_)
  refine lv_iload_n hx hb d_Mo_costOf_10 rfl (lv_at hl 0 rfl) ?_
  refine lv_aload_n hx hb d_Mo_costOf_11 rfl (lv_at hl 2 rfl) ?_
  refine gg_16_14 (x := (G 16 14)) hC hB rfl fl_Mo_72 d_Mo_costOf_12 ?_
  refine lv_if_lt (tgt := 49) hx hb d_Mo_costOf_15 (by decide) (fun c1 => ?_) (fun c1 => ?_)
  · have hf := hf.trans (if_pos c1)
    have hok := hok.1 c1
    refine lv_iconst (v := 0) hx hb d_Mo_costOf_49 (by decide) ?_
    refine lv_iadd hx hb d_Mo_costOf_50 ?_
    refine lv_istore_n (lv' := [(2, .int (1 + 0)), (1, .int (f_Mo_slot G (G 16 11))), (0, .ref (ad 16))]) hx hb d_Mo_costOf_51 rfl hl (by decide) rfl (fun ls hl => ?_)
    refine lv_iload_n hx hb d_Mo_costOf_52 rfl (lv_at hl 0 rfl) ?_
    refine lv_aload_n hx hb d_Mo_costOf_53 rfl (lv_at hl 2 rfl) ?_
    refine gr_16_6 hC hB fl_Mo_16 d_Mo_costOf_54 ?_
    refine lv_sipush (v := 264) hx hb d_Mo_costOf_57 (by decide) ?_
    refine ga_19 (x := (G 19 264)) hC hB (by decide) rfl d_Mo_costOf_60 ?_
    refine lv_aload_n hx hb d_Mo_costOf_61 rfl (lv_at hl 2 rfl) ?_
    refine gr_16_8 hC hB fl_Mo_23 d_Mo_costOf_62 ?_
    refine lv_sipush (v := 269) hx hb d_Mo_costOf_65 (by decide) ?_
    refine lv_iload_n hx hb d_Mo_costOf_68 rfl (lv_at hl 1 rfl) ?_
    refine lv_imul hx hb d_Mo_costOf_69 ?_
    refine lv_sipush (v := 264) hx hb d_Mo_costOf_70 (by decide) ?_
    refine lv_iadd hx hb d_Mo_costOf_73 ?_
    refine ga_21 (x := (G 21 (((269 * (f_Mo_slot G (G 16 11))) + 264).toNatClampNeg))) hC hB hok.1 rfl d_Mo_costOf_74 ?_
    have hok := hok.2
    refine lv_iconst (v := 1) hx hb d_Mo_costOf_75 (by decide) ?_
    refine lv_iadd hx hb d_Mo_costOf_76 ?_
    refine lv_bipush (v := 63) hx hb d_Mo_costOf_77 (by decide) ?_
    refine lv_iand hx hb d_Mo_costOf_79 ?_
    refine lv_icmp_eq (tgt := 87) hx hb d_Mo_costOf_80 (by decide) (fun c2 => ?_) (fun c2 => ?_)
    · have hf := hf.trans (if_pos c2)
      have hok := hok.1 c2
      refine lv_iconst (v := 0) hx hb d_Mo_costOf_87 (by decide) ?_
      refine lv_iadd hx hb d_Mo_costOf_88 ?_
      refine lv_istore_n (lv' := [(2, .int ((1 + 0) + 0)), (1, .int (f_Mo_slot G (G 16 11))), (0, .ref (ad 16))]) hx hb d_Mo_costOf_89 rfl hl (by decide) rfl (fun ls hl => ?_)
      refine lv_iload_n hx hb d_Mo_costOf_90 rfl (lv_at hl 0 rfl) ?_
      refine lv_aload_n hx hb d_Mo_costOf_91 rfl (lv_at hl 2 rfl) ?_
      refine gr_16_6 hC hB fl_Mo_16 d_Mo_costOf_92 ?_
      refine lv_sipush (v := 265) hx hb d_Mo_costOf_95 (by decide) ?_
      refine ga_19 (x := (G 19 265)) hC hB (by decide) rfl d_Mo_costOf_98 ?_
      refine lv_aload_n hx hb d_Mo_costOf_99 rfl (lv_at hl 2 rfl) ?_
      refine gr_16_8 hC hB fl_Mo_23 d_Mo_costOf_100 ?_
      refine lv_sipush (v := 269) hx hb d_Mo_costOf_103 (by decide) ?_
      refine lv_iload_n hx hb d_Mo_costOf_106 rfl (lv_at hl 1 rfl) ?_
      refine lv_imul hx hb d_Mo_costOf_107 ?_
      refine lv_sipush (v := 265) hx hb d_Mo_costOf_108 (by decide) ?_
      refine lv_iadd hx hb d_Mo_costOf_111 ?_
      refine ga_21 (x := (G 21 (((269 * (f_Mo_slot G (G 16 11))) + 265).toNatClampNeg))) hC hB hok.1 rfl d_Mo_costOf_112 ?_
      have hok := hok.2
      refine lv_isub hx hb d_Mo_costOf_113 ?_
      refine lv_iadd hx hb d_Mo_costOf_114 ?_
      refine lv_istore_n (lv' := [(2, .int (((1 + 0) + 0) + ((G 19 265) - (G 21 (((269 * (f_Mo_slot G (G 16 11))) + 265).toNatClampNeg))))), (1, .int (f_Mo_slot G (G 16 11))), (0, .ref (ad 16))]) hx hb d_Mo_costOf_115 rfl hl (by decide) rfl (fun ls hl => ?_)
      refine lv_iload_n hx hb d_Mo_costOf_116 rfl (lv_at hl 0 rfl) ?_
      refine lv_aload_n hx hb d_Mo_costOf_117 rfl (lv_at hl 2 rfl) ?_
      refine gr_16_6 hC hB fl_Mo_16 d_Mo_costOf_118 ?_
      refine lv_sipush (v := 266) hx hb d_Mo_costOf_121 (by decide) ?_
      refine ga_19 (x := (G 19 266)) hC hB (by decide) rfl d_Mo_costOf_124 ?_
      refine lv_aload_n hx hb d_Mo_costOf_125 rfl (lv_at hl 2 rfl) ?_
      refine gr_16_8 hC hB fl_Mo_23 d_Mo_costOf_126 ?_
      refine lv_sipush (v := 269) hx hb d_Mo_costOf_129 (by decide) ?_
      refine lv_iload_n hx hb d_Mo_costOf_132 rfl (lv_at hl 1 rfl) ?_
      refine lv_imul hx hb d_Mo_costOf_133 ?_
      refine lv_sipush (v := 266) hx hb d_Mo_costOf_134 (by decide) ?_
      refine lv_iadd hx hb d_Mo_costOf_137 ?_
      refine ga_21 (x := (G 21 (((269 * (f_Mo_slot G (G 16 11))) + 266).toNatClampNeg))) hC hB hok.1 rfl d_Mo_costOf_138 ?_
      have hok := hok.2
      refine lv_isub hx hb d_Mo_costOf_139 ?_
      refine lv_iadd hx hb d_Mo_costOf_140 ?_
      refine lv_istore_n (lv' := [(2, .int ((((1 + 0) + 0) + ((G 19 265) - (G 21 (((269 * (f_Mo_slot G (G 16 11))) + 265).toNatClampNeg)))) + ((G 19 266) - (G 21 (((269 * (f_Mo_slot G (G 16 11))) + 266).toNatClampNeg))))), (1, .int (f_Mo_slot G (G 16 11))), (0, .ref (ad 16))]) hx hb d_Mo_costOf_141 rfl hl (by decide) rfl (fun ls hl => ?_)
      refine lv_iload_n hx hb d_Mo_costOf_142 rfl (lv_at hl 0 rfl) ?_
      exact g_iret hC hB hr hlk (by decide) (by decide) (by rw [hf]) rfl d_Mo_costOf_143
    · have hf := hf.trans (if_neg c2)
      have hok := hok.2 c2
      refine lv_iconst (v := 1) hx hb d_Mo_costOf_83 (by decide) ?_
      refine lv_goto (tgt := 88) hx hb d_Mo_costOf_84 (by decide) ?_
      refine lv_iadd hx hb d_Mo_costOf_88 ?_
      refine lv_istore_n (lv' := [(2, .int ((1 + 0) + 1)), (1, .int (f_Mo_slot G (G 16 11))), (0, .ref (ad 16))]) hx hb d_Mo_costOf_89 rfl hl (by decide) rfl (fun ls hl => ?_)
      refine lv_iload_n hx hb d_Mo_costOf_90 rfl (lv_at hl 0 rfl) ?_
      refine lv_aload_n hx hb d_Mo_costOf_91 rfl (lv_at hl 2 rfl) ?_
      refine gr_16_6 hC hB fl_Mo_16 d_Mo_costOf_92 ?_
      refine lv_sipush (v := 265) hx hb d_Mo_costOf_95 (by decide) ?_
      refine ga_19 (x := (G 19 265)) hC hB (by decide) rfl d_Mo_costOf_98 ?_
      refine lv_aload_n hx hb d_Mo_costOf_99 rfl (lv_at hl 2 rfl) ?_
      refine gr_16_8 hC hB fl_Mo_23 d_Mo_costOf_100 ?_
      refine lv_sipush (v := 269) hx hb d_Mo_costOf_103 (by decide) ?_
      refine lv_iload_n hx hb d_Mo_costOf_106 rfl (lv_at hl 1 rfl) ?_
      refine lv_imul hx hb d_Mo_costOf_107 ?_
      refine lv_sipush (v := 265) hx hb d_Mo_costOf_108 (by decide) ?_
      refine lv_iadd hx hb d_Mo_costOf_111 ?_
      refine ga_21 (x := (G 21 (((269 * (f_Mo_slot G (G 16 11))) + 265).toNatClampNeg))) hC hB hok.1 rfl d_Mo_costOf_112 ?_
      have hok := hok.2
      refine lv_isub hx hb d_Mo_costOf_113 ?_
      refine lv_iadd hx hb d_Mo_costOf_114 ?_
      refine lv_istore_n (lv' := [(2, .int (((1 + 0) + 1) + ((G 19 265) - (G 21 (((269 * (f_Mo_slot G (G 16 11))) + 265).toNatClampNeg))))), (1, .int (f_Mo_slot G (G 16 11))), (0, .ref (ad 16))]) hx hb d_Mo_costOf_115 rfl hl (by decide) rfl (fun ls hl => ?_)
      refine lv_iload_n hx hb d_Mo_costOf_116 rfl (lv_at hl 0 rfl) ?_
      refine lv_aload_n hx hb d_Mo_costOf_117 rfl (lv_at hl 2 rfl) ?_
      refine gr_16_6 hC hB fl_Mo_16 d_Mo_costOf_118 ?_
      refine lv_sipush (v := 266) hx hb d_Mo_costOf_121 (by decide) ?_
      refine ga_19 (x := (G 19 266)) hC hB (by decide) rfl d_Mo_costOf_124 ?_
      refine lv_aload_n hx hb d_Mo_costOf_125 rfl (lv_at hl 2 rfl) ?_
      refine gr_16_8 hC hB fl_Mo_23 d_Mo_costOf_126 ?_
      refine lv_sipush (v := 269) hx hb d_Mo_costOf_129 (by decide) ?_
      refine lv_iload_n hx hb d_Mo_costOf_132 rfl (lv_at hl 1 rfl) ?_
      refine lv_imul hx hb d_Mo_costOf_133 ?_
      refine lv_sipush (v := 266) hx hb d_Mo_costOf_134 (by decide) ?_
      refine lv_iadd hx hb d_Mo_costOf_137 ?_
      refine ga_21 (x := (G 21 (((269 * (f_Mo_slot G (G 16 11))) + 266).toNatClampNeg))) hC hB hok.1 rfl d_Mo_costOf_138 ?_
      have hok := hok.2
      refine lv_isub hx hb d_Mo_costOf_139 ?_
      refine lv_iadd hx hb d_Mo_costOf_140 ?_
      refine lv_istore_n (lv' := [(2, .int ((((1 + 0) + 1) + ((G 19 265) - (G 21 (((269 * (f_Mo_slot G (G 16 11))) + 265).toNatClampNeg)))) + ((G 19 266) - (G 21 (((269 * (f_Mo_slot G (G 16 11))) + 266).toNatClampNeg))))), (1, .int (f_Mo_slot G (G 16 11))), (0, .ref (ad 16))]) hx hb d_Mo_costOf_141 rfl hl (by decide) rfl (fun ls hl => ?_)
      refine lv_iload_n hx hb d_Mo_costOf_142 rfl (lv_at hl 0 rfl) ?_
      exact g_iret hC hB hr hlk (by decide) (by decide) (by rw [hf]) rfl d_Mo_costOf_143
  · have hf := hf.trans (if_neg c1)
    have hok := hok.2 c1
    refine lv_aload_n hx hb d_Mo_costOf_18 rfl (lv_at hl 2 rfl) ?_
    refine gr_16_6 hC hB fl_Mo_16 d_Mo_costOf_19 ?_
    refine lv_aload_n hx hb d_Mo_costOf_22 rfl (lv_at hl 2 rfl) ?_
    refine gg_16_14 (x := (G 16 14)) hC hB rfl fl_Mo_72 d_Mo_costOf_23 ?_
    refine ga_19 (x := (G 19 ((G 16 14).toNatClampNeg))) hC hB hok.1 rfl d_Mo_costOf_26 ?_
    have hok := hok.2
    refine lv_aload_n hx hb d_Mo_costOf_27 rfl (lv_at hl 2 rfl) ?_
    refine gr_16_8 hC hB fl_Mo_23 d_Mo_costOf_28 ?_
    refine lv_sipush (v := 269) hx hb d_Mo_costOf_31 (by decide) ?_
    refine lv_iload_n hx hb d_Mo_costOf_34 rfl (lv_at hl 1 rfl) ?_
    refine lv_imul hx hb d_Mo_costOf_35 ?_
    refine lv_aload_n hx hb d_Mo_costOf_36 rfl (lv_at hl 2 rfl) ?_
    refine gg_16_14 (x := (G 16 14)) hC hB rfl fl_Mo_72 d_Mo_costOf_37 ?_
    refine lv_iadd hx hb d_Mo_costOf_40 ?_
    refine ga_21 (x := (G 21 (((269 * (f_Mo_slot G (G 16 11))) + (G 16 14)).toNatClampNeg))) hC hB hok.1 rfl d_Mo_costOf_41 ?_
    have hok := hok.2
    refine lv_icmp_eq (tgt := 49) hx hb d_Mo_costOf_42 (by decide) (fun c3 => ?_) (fun c3 => ?_)
    · have hf := hf.trans (if_pos c3)
      have hok := hok.1 c3
      refine lv_iconst (v := 0) hx hb d_Mo_costOf_49 (by decide) ?_
      refine lv_iadd hx hb d_Mo_costOf_50 ?_
      refine lv_istore_n (lv' := [(2, .int (1 + 0)), (1, .int (f_Mo_slot G (G 16 11))), (0, .ref (ad 16))]) hx hb d_Mo_costOf_51 rfl hl (by decide) rfl (fun ls hl => ?_)
      refine lv_iload_n hx hb d_Mo_costOf_52 rfl (lv_at hl 0 rfl) ?_
      refine lv_aload_n hx hb d_Mo_costOf_53 rfl (lv_at hl 2 rfl) ?_
      refine gr_16_6 hC hB fl_Mo_16 d_Mo_costOf_54 ?_
      refine lv_sipush (v := 264) hx hb d_Mo_costOf_57 (by decide) ?_
      refine ga_19 (x := (G 19 264)) hC hB (by decide) rfl d_Mo_costOf_60 ?_
      refine lv_aload_n hx hb d_Mo_costOf_61 rfl (lv_at hl 2 rfl) ?_
      refine gr_16_8 hC hB fl_Mo_23 d_Mo_costOf_62 ?_
      refine lv_sipush (v := 269) hx hb d_Mo_costOf_65 (by decide) ?_
      refine lv_iload_n hx hb d_Mo_costOf_68 rfl (lv_at hl 1 rfl) ?_
      refine lv_imul hx hb d_Mo_costOf_69 ?_
      refine lv_sipush (v := 264) hx hb d_Mo_costOf_70 (by decide) ?_
      refine lv_iadd hx hb d_Mo_costOf_73 ?_
      refine ga_21 (x := (G 21 (((269 * (f_Mo_slot G (G 16 11))) + 264).toNatClampNeg))) hC hB hok.1 rfl d_Mo_costOf_74 ?_
      have hok := hok.2
      refine lv_iconst (v := 1) hx hb d_Mo_costOf_75 (by decide) ?_
      refine lv_iadd hx hb d_Mo_costOf_76 ?_
      refine lv_bipush (v := 63) hx hb d_Mo_costOf_77 (by decide) ?_
      refine lv_iand hx hb d_Mo_costOf_79 ?_
      refine lv_icmp_eq (tgt := 87) hx hb d_Mo_costOf_80 (by decide) (fun c4 => ?_) (fun c4 => ?_)
      · have hf := hf.trans (if_pos c4)
        have hok := hok.1 c4
        refine lv_iconst (v := 0) hx hb d_Mo_costOf_87 (by decide) ?_
        refine lv_iadd hx hb d_Mo_costOf_88 ?_
        refine lv_istore_n (lv' := [(2, .int ((1 + 0) + 0)), (1, .int (f_Mo_slot G (G 16 11))), (0, .ref (ad 16))]) hx hb d_Mo_costOf_89 rfl hl (by decide) rfl (fun ls hl => ?_)
        refine lv_iload_n hx hb d_Mo_costOf_90 rfl (lv_at hl 0 rfl) ?_
        refine lv_aload_n hx hb d_Mo_costOf_91 rfl (lv_at hl 2 rfl) ?_
        refine gr_16_6 hC hB fl_Mo_16 d_Mo_costOf_92 ?_
        refine lv_sipush (v := 265) hx hb d_Mo_costOf_95 (by decide) ?_
        refine ga_19 (x := (G 19 265)) hC hB (by decide) rfl d_Mo_costOf_98 ?_
        refine lv_aload_n hx hb d_Mo_costOf_99 rfl (lv_at hl 2 rfl) ?_
        refine gr_16_8 hC hB fl_Mo_23 d_Mo_costOf_100 ?_
        refine lv_sipush (v := 269) hx hb d_Mo_costOf_103 (by decide) ?_
        refine lv_iload_n hx hb d_Mo_costOf_106 rfl (lv_at hl 1 rfl) ?_
        refine lv_imul hx hb d_Mo_costOf_107 ?_
        refine lv_sipush (v := 265) hx hb d_Mo_costOf_108 (by decide) ?_
        refine lv_iadd hx hb d_Mo_costOf_111 ?_
        refine ga_21 (x := (G 21 (((269 * (f_Mo_slot G (G 16 11))) + 265).toNatClampNeg))) hC hB hok.1 rfl d_Mo_costOf_112 ?_
        have hok := hok.2
        refine lv_isub hx hb d_Mo_costOf_113 ?_
        refine lv_iadd hx hb d_Mo_costOf_114 ?_
        refine lv_istore_n (lv' := [(2, .int (((1 + 0) + 0) + ((G 19 265) - (G 21 (((269 * (f_Mo_slot G (G 16 11))) + 265).toNatClampNeg))))), (1, .int (f_Mo_slot G (G 16 11))), (0, .ref (ad 16))]) hx hb d_Mo_costOf_115 rfl hl (by decide) rfl (fun ls hl => ?_)
        refine lv_iload_n hx hb d_Mo_costOf_116 rfl (lv_at hl 0 rfl) ?_
        refine lv_aload_n hx hb d_Mo_costOf_117 rfl (lv_at hl 2 rfl) ?_
        refine gr_16_6 hC hB fl_Mo_16 d_Mo_costOf_118 ?_
        refine lv_sipush (v := 266) hx hb d_Mo_costOf_121 (by decide) ?_
        refine ga_19 (x := (G 19 266)) hC hB (by decide) rfl d_Mo_costOf_124 ?_
        refine lv_aload_n hx hb d_Mo_costOf_125 rfl (lv_at hl 2 rfl) ?_
        refine gr_16_8 hC hB fl_Mo_23 d_Mo_costOf_126 ?_
        refine lv_sipush (v := 269) hx hb d_Mo_costOf_129 (by decide) ?_
        refine lv_iload_n hx hb d_Mo_costOf_132 rfl (lv_at hl 1 rfl) ?_
        refine lv_imul hx hb d_Mo_costOf_133 ?_
        refine lv_sipush (v := 266) hx hb d_Mo_costOf_134 (by decide) ?_
        refine lv_iadd hx hb d_Mo_costOf_137 ?_
        refine ga_21 (x := (G 21 (((269 * (f_Mo_slot G (G 16 11))) + 266).toNatClampNeg))) hC hB hok.1 rfl d_Mo_costOf_138 ?_
        have hok := hok.2
        refine lv_isub hx hb d_Mo_costOf_139 ?_
        refine lv_iadd hx hb d_Mo_costOf_140 ?_
        refine lv_istore_n (lv' := [(2, .int ((((1 + 0) + 0) + ((G 19 265) - (G 21 (((269 * (f_Mo_slot G (G 16 11))) + 265).toNatClampNeg)))) + ((G 19 266) - (G 21 (((269 * (f_Mo_slot G (G 16 11))) + 266).toNatClampNeg))))), (1, .int (f_Mo_slot G (G 16 11))), (0, .ref (ad 16))]) hx hb d_Mo_costOf_141 rfl hl (by decide) rfl (fun ls hl => ?_)
        refine lv_iload_n hx hb d_Mo_costOf_142 rfl (lv_at hl 0 rfl) ?_
        exact g_iret hC hB hr hlk (by decide) (by decide) (by rw [hf]) rfl d_Mo_costOf_143
      · have hf := hf.trans (if_neg c4)
        have hok := hok.2 c4
        refine lv_iconst (v := 1) hx hb d_Mo_costOf_83 (by decide) ?_
        refine lv_goto (tgt := 88) hx hb d_Mo_costOf_84 (by decide) ?_
        refine lv_iadd hx hb d_Mo_costOf_88 ?_
        refine lv_istore_n (lv' := [(2, .int ((1 + 0) + 1)), (1, .int (f_Mo_slot G (G 16 11))), (0, .ref (ad 16))]) hx hb d_Mo_costOf_89 rfl hl (by decide) rfl (fun ls hl => ?_)
        refine lv_iload_n hx hb d_Mo_costOf_90 rfl (lv_at hl 0 rfl) ?_
        refine lv_aload_n hx hb d_Mo_costOf_91 rfl (lv_at hl 2 rfl) ?_
        refine gr_16_6 hC hB fl_Mo_16 d_Mo_costOf_92 ?_
        refine lv_sipush (v := 265) hx hb d_Mo_costOf_95 (by decide) ?_
        refine ga_19 (x := (G 19 265)) hC hB (by decide) rfl d_Mo_costOf_98 ?_
        refine lv_aload_n hx hb d_Mo_costOf_99 rfl (lv_at hl 2 rfl) ?_
        refine gr_16_8 hC hB fl_Mo_23 d_Mo_costOf_100 ?_
        refine lv_sipush (v := 269) hx hb d_Mo_costOf_103 (by decide) ?_
        refine lv_iload_n hx hb d_Mo_costOf_106 rfl (lv_at hl 1 rfl) ?_
        refine lv_imul hx hb d_Mo_costOf_107 ?_
        refine lv_sipush (v := 265) hx hb d_Mo_costOf_108 (by decide) ?_
        refine lv_iadd hx hb d_Mo_costOf_111 ?_
        refine ga_21 (x := (G 21 (((269 * (f_Mo_slot G (G 16 11))) + 265).toNatClampNeg))) hC hB hok.1 rfl d_Mo_costOf_112 ?_
        have hok := hok.2
        refine lv_isub hx hb d_Mo_costOf_113 ?_
        refine lv_iadd hx hb d_Mo_costOf_114 ?_
        refine lv_istore_n (lv' := [(2, .int (((1 + 0) + 1) + ((G 19 265) - (G 21 (((269 * (f_Mo_slot G (G 16 11))) + 265).toNatClampNeg))))), (1, .int (f_Mo_slot G (G 16 11))), (0, .ref (ad 16))]) hx hb d_Mo_costOf_115 rfl hl (by decide) rfl (fun ls hl => ?_)
        refine lv_iload_n hx hb d_Mo_costOf_116 rfl (lv_at hl 0 rfl) ?_
        refine lv_aload_n hx hb d_Mo_costOf_117 rfl (lv_at hl 2 rfl) ?_
        refine gr_16_6 hC hB fl_Mo_16 d_Mo_costOf_118 ?_
        refine lv_sipush (v := 266) hx hb d_Mo_costOf_121 (by decide) ?_
        refine ga_19 (x := (G 19 266)) hC hB (by decide) rfl d_Mo_costOf_124 ?_
        refine lv_aload_n hx hb d_Mo_costOf_125 rfl (lv_at hl 2 rfl) ?_
        refine gr_16_8 hC hB fl_Mo_23 d_Mo_costOf_126 ?_
        refine lv_sipush (v := 269) hx hb d_Mo_costOf_129 (by decide) ?_
        refine lv_iload_n hx hb d_Mo_costOf_132 rfl (lv_at hl 1 rfl) ?_
        refine lv_imul hx hb d_Mo_costOf_133 ?_
        refine lv_sipush (v := 266) hx hb d_Mo_costOf_134 (by decide) ?_
        refine lv_iadd hx hb d_Mo_costOf_137 ?_
        refine ga_21 (x := (G 21 (((269 * (f_Mo_slot G (G 16 11))) + 266).toNatClampNeg))) hC hB hok.1 rfl d_Mo_costOf_138 ?_
        have hok := hok.2
        refine lv_isub hx hb d_Mo_costOf_139 ?_
        refine lv_iadd hx hb d_Mo_costOf_140 ?_
        refine lv_istore_n (lv' := [(2, .int ((((1 + 0) + 1) + ((G 19 265) - (G 21 (((269 * (f_Mo_slot G (G 16 11))) + 265).toNatClampNeg)))) + ((G 19 266) - (G 21 (((269 * (f_Mo_slot G (G 16 11))) + 266).toNatClampNeg))))), (1, .int (f_Mo_slot G (G 16 11))), (0, .ref (ad 16))]) hx hb d_Mo_costOf_141 rfl hl (by decide) rfl (fun ls hl => ?_)
        refine lv_iload_n hx hb d_Mo_costOf_142 rfl (lv_at hl 0 rfl) ?_
        exact g_iret hC hB hr hlk (by decide) (by decide) (by rw [hf]) rfl d_Mo_costOf_143
    · have hf := hf.trans (if_neg c3)
      have hok := hok.2 c3
      refine lv_iconst (v := 1) hx hb d_Mo_costOf_45 (by decide) ?_
      refine lv_goto (tgt := 50) hx hb d_Mo_costOf_46 (by decide) ?_
      refine lv_iadd hx hb d_Mo_costOf_50 ?_
      refine lv_istore_n (lv' := [(2, .int (1 + 1)), (1, .int (f_Mo_slot G (G 16 11))), (0, .ref (ad 16))]) hx hb d_Mo_costOf_51 rfl hl (by decide) rfl (fun ls hl => ?_)
      refine lv_iload_n hx hb d_Mo_costOf_52 rfl (lv_at hl 0 rfl) ?_
      refine lv_aload_n hx hb d_Mo_costOf_53 rfl (lv_at hl 2 rfl) ?_
      refine gr_16_6 hC hB fl_Mo_16 d_Mo_costOf_54 ?_
      refine lv_sipush (v := 264) hx hb d_Mo_costOf_57 (by decide) ?_
      refine ga_19 (x := (G 19 264)) hC hB (by decide) rfl d_Mo_costOf_60 ?_
      refine lv_aload_n hx hb d_Mo_costOf_61 rfl (lv_at hl 2 rfl) ?_
      refine gr_16_8 hC hB fl_Mo_23 d_Mo_costOf_62 ?_
      refine lv_sipush (v := 269) hx hb d_Mo_costOf_65 (by decide) ?_
      refine lv_iload_n hx hb d_Mo_costOf_68 rfl (lv_at hl 1 rfl) ?_
      refine lv_imul hx hb d_Mo_costOf_69 ?_
      refine lv_sipush (v := 264) hx hb d_Mo_costOf_70 (by decide) ?_
      refine lv_iadd hx hb d_Mo_costOf_73 ?_
      refine ga_21 (x := (G 21 (((269 * (f_Mo_slot G (G 16 11))) + 264).toNatClampNeg))) hC hB hok.1 rfl d_Mo_costOf_74 ?_
      have hok := hok.2
      refine lv_iconst (v := 1) hx hb d_Mo_costOf_75 (by decide) ?_
      refine lv_iadd hx hb d_Mo_costOf_76 ?_
      refine lv_bipush (v := 63) hx hb d_Mo_costOf_77 (by decide) ?_
      refine lv_iand hx hb d_Mo_costOf_79 ?_
      refine lv_icmp_eq (tgt := 87) hx hb d_Mo_costOf_80 (by decide) (fun c5 => ?_) (fun c5 => ?_)
      · have hf := hf.trans (if_pos c5)
        have hok := hok.1 c5
        refine lv_iconst (v := 0) hx hb d_Mo_costOf_87 (by decide) ?_
        refine lv_iadd hx hb d_Mo_costOf_88 ?_
        refine lv_istore_n (lv' := [(2, .int ((1 + 1) + 0)), (1, .int (f_Mo_slot G (G 16 11))), (0, .ref (ad 16))]) hx hb d_Mo_costOf_89 rfl hl (by decide) rfl (fun ls hl => ?_)
        refine lv_iload_n hx hb d_Mo_costOf_90 rfl (lv_at hl 0 rfl) ?_
        refine lv_aload_n hx hb d_Mo_costOf_91 rfl (lv_at hl 2 rfl) ?_
        refine gr_16_6 hC hB fl_Mo_16 d_Mo_costOf_92 ?_
        refine lv_sipush (v := 265) hx hb d_Mo_costOf_95 (by decide) ?_
        refine ga_19 (x := (G 19 265)) hC hB (by decide) rfl d_Mo_costOf_98 ?_
        refine lv_aload_n hx hb d_Mo_costOf_99 rfl (lv_at hl 2 rfl) ?_
        refine gr_16_8 hC hB fl_Mo_23 d_Mo_costOf_100 ?_
        refine lv_sipush (v := 269) hx hb d_Mo_costOf_103 (by decide) ?_
        refine lv_iload_n hx hb d_Mo_costOf_106 rfl (lv_at hl 1 rfl) ?_
        refine lv_imul hx hb d_Mo_costOf_107 ?_
        refine lv_sipush (v := 265) hx hb d_Mo_costOf_108 (by decide) ?_
        refine lv_iadd hx hb d_Mo_costOf_111 ?_
        refine ga_21 (x := (G 21 (((269 * (f_Mo_slot G (G 16 11))) + 265).toNatClampNeg))) hC hB hok.1 rfl d_Mo_costOf_112 ?_
        have hok := hok.2
        refine lv_isub hx hb d_Mo_costOf_113 ?_
        refine lv_iadd hx hb d_Mo_costOf_114 ?_
        refine lv_istore_n (lv' := [(2, .int (((1 + 1) + 0) + ((G 19 265) - (G 21 (((269 * (f_Mo_slot G (G 16 11))) + 265).toNatClampNeg))))), (1, .int (f_Mo_slot G (G 16 11))), (0, .ref (ad 16))]) hx hb d_Mo_costOf_115 rfl hl (by decide) rfl (fun ls hl => ?_)
        refine lv_iload_n hx hb d_Mo_costOf_116 rfl (lv_at hl 0 rfl) ?_
        refine lv_aload_n hx hb d_Mo_costOf_117 rfl (lv_at hl 2 rfl) ?_
        refine gr_16_6 hC hB fl_Mo_16 d_Mo_costOf_118 ?_
        refine lv_sipush (v := 266) hx hb d_Mo_costOf_121 (by decide) ?_
        refine ga_19 (x := (G 19 266)) hC hB (by decide) rfl d_Mo_costOf_124 ?_
        refine lv_aload_n hx hb d_Mo_costOf_125 rfl (lv_at hl 2 rfl) ?_
        refine gr_16_8 hC hB fl_Mo_23 d_Mo_costOf_126 ?_
        refine lv_sipush (v := 269) hx hb d_Mo_costOf_129 (by decide) ?_
        refine lv_iload_n hx hb d_Mo_costOf_132 rfl (lv_at hl 1 rfl) ?_
        refine lv_imul hx hb d_Mo_costOf_133 ?_
        refine lv_sipush (v := 266) hx hb d_Mo_costOf_134 (by decide) ?_
        refine lv_iadd hx hb d_Mo_costOf_137 ?_
        refine ga_21 (x := (G 21 (((269 * (f_Mo_slot G (G 16 11))) + 266).toNatClampNeg))) hC hB hok.1 rfl d_Mo_costOf_138 ?_
        have hok := hok.2
        refine lv_isub hx hb d_Mo_costOf_139 ?_
        refine lv_iadd hx hb d_Mo_costOf_140 ?_
        refine lv_istore_n (lv' := [(2, .int ((((1 + 1) + 0) + ((G 19 265) - (G 21 (((269 * (f_Mo_slot G (G 16 11))) + 265).toNatClampNeg)))) + ((G 19 266) - (G 21 (((269 * (f_Mo_slot G (G 16 11))) + 266).toNatClampNeg))))), (1, .int (f_Mo_slot G (G 16 11))), (0, .ref (ad 16))]) hx hb d_Mo_costOf_141 rfl hl (by decide) rfl (fun ls hl => ?_)
        refine lv_iload_n hx hb d_Mo_costOf_142 rfl (lv_at hl 0 rfl) ?_
        exact g_iret hC hB hr hlk (by decide) (by decide) (by rw [hf]) rfl d_Mo_costOf_143
      · have hf := hf.trans (if_neg c5)
        have hok := hok.2 c5
        refine lv_iconst (v := 1) hx hb d_Mo_costOf_83 (by decide) ?_
        refine lv_goto (tgt := 88) hx hb d_Mo_costOf_84 (by decide) ?_
        refine lv_iadd hx hb d_Mo_costOf_88 ?_
        refine lv_istore_n (lv' := [(2, .int ((1 + 1) + 1)), (1, .int (f_Mo_slot G (G 16 11))), (0, .ref (ad 16))]) hx hb d_Mo_costOf_89 rfl hl (by decide) rfl (fun ls hl => ?_)
        refine lv_iload_n hx hb d_Mo_costOf_90 rfl (lv_at hl 0 rfl) ?_
        refine lv_aload_n hx hb d_Mo_costOf_91 rfl (lv_at hl 2 rfl) ?_
        refine gr_16_6 hC hB fl_Mo_16 d_Mo_costOf_92 ?_
        refine lv_sipush (v := 265) hx hb d_Mo_costOf_95 (by decide) ?_
        refine ga_19 (x := (G 19 265)) hC hB (by decide) rfl d_Mo_costOf_98 ?_
        refine lv_aload_n hx hb d_Mo_costOf_99 rfl (lv_at hl 2 rfl) ?_
        refine gr_16_8 hC hB fl_Mo_23 d_Mo_costOf_100 ?_
        refine lv_sipush (v := 269) hx hb d_Mo_costOf_103 (by decide) ?_
        refine lv_iload_n hx hb d_Mo_costOf_106 rfl (lv_at hl 1 rfl) ?_
        refine lv_imul hx hb d_Mo_costOf_107 ?_
        refine lv_sipush (v := 265) hx hb d_Mo_costOf_108 (by decide) ?_
        refine lv_iadd hx hb d_Mo_costOf_111 ?_
        refine ga_21 (x := (G 21 (((269 * (f_Mo_slot G (G 16 11))) + 265).toNatClampNeg))) hC hB hok.1 rfl d_Mo_costOf_112 ?_
        have hok := hok.2
        refine lv_isub hx hb d_Mo_costOf_113 ?_
        refine lv_iadd hx hb d_Mo_costOf_114 ?_
        refine lv_istore_n (lv' := [(2, .int (((1 + 1) + 1) + ((G 19 265) - (G 21 (((269 * (f_Mo_slot G (G 16 11))) + 265).toNatClampNeg))))), (1, .int (f_Mo_slot G (G 16 11))), (0, .ref (ad 16))]) hx hb d_Mo_costOf_115 rfl hl (by decide) rfl (fun ls hl => ?_)
        refine lv_iload_n hx hb d_Mo_costOf_116 rfl (lv_at hl 0 rfl) ?_
        refine lv_aload_n hx hb d_Mo_costOf_117 rfl (lv_at hl 2 rfl) ?_
        refine gr_16_6 hC hB fl_Mo_16 d_Mo_costOf_118 ?_
        refine lv_sipush (v := 266) hx hb d_Mo_costOf_121 (by decide) ?_
        refine ga_19 (x := (G 19 266)) hC hB (by decide) rfl d_Mo_costOf_124 ?_
        refine lv_aload_n hx hb d_Mo_costOf_125 rfl (lv_at hl 2 rfl) ?_
        refine gr_16_8 hC hB fl_Mo_23 d_Mo_costOf_126 ?_
        refine lv_sipush (v := 269) hx hb d_Mo_costOf_129 (by decide) ?_
        refine lv_iload_n hx hb d_Mo_costOf_132 rfl (lv_at hl 1 rfl) ?_
        refine lv_imul hx hb d_Mo_costOf_133 ?_
        refine lv_sipush (v := 266) hx hb d_Mo_costOf_134 (by decide) ?_
        refine lv_iadd hx hb d_Mo_costOf_137 ?_
        refine ga_21 (x := (G 21 (((269 * (f_Mo_slot G (G 16 11))) + 266).toNatClampNeg))) hC hB hok.1 rfl d_Mo_costOf_138 ?_
        have hok := hok.2
        refine lv_isub hx hb d_Mo_costOf_139 ?_
        refine lv_iadd hx hb d_Mo_costOf_140 ?_
        refine lv_istore_n (lv' := [(2, .int ((((1 + 1) + 1) + ((G 19 265) - (G 21 (((269 * (f_Mo_slot G (G 16 11))) + 265).toNatClampNeg)))) + ((G 19 266) - (G 21 (((269 * (f_Mo_slot G (G 16 11))) + 266).toNatClampNeg))))), (1, .int (f_Mo_slot G (G 16 11))), (0, .ref (ad 16))]) hx hb d_Mo_costOf_141 rfl hl (by decide) rfl (fun ls hl => ?_)
        refine lv_iload_n hx hb d_Mo_costOf_142 rfl (lv_at hl 0 rfl) ?_
        exact g_iret hC hB hr hlk (by decide) (by decide) (by rw [hf]) rfl d_Mo_costOf_143
abbrev rm_Mo_isKept : Room := { frames := 1, cells := 0, slots := 0, locals := 14 }
def f_Mo_isKept (G : gT) (p1 : Int32) : Int32 := (f_Mo_within G p1 (G 16 12) (G 16 11))
set_option maxHeartbeats 4000000 in
set_option maxRecDepth 100000 in
theorem c_Mo_isKept (l : Launch) (G : gT) (p1 : Int32) (O : Int64) : gMet l y_Mo_isKept w_Mo_isKept rm_Mo_isKept (fun ad => [.ref (ad 16), .int p1]) G O (.inl (some (.int (f_Mo_isKept G p1)))) G O := by
  refine g_body (by decide) (gCode_of _ _ _ _) (fun ad => by simp [lg_sl, Value.category]) ?_
  intro p e s0 s m args below meth c D cI cL ad hC hr hlk htb hB ls hl
  have hC : CallFix p m c b_Mo_isKept 2 s args gtb R_Mo := hC
  have hl : lv_has ls 2 [(0, .ref (ad 16)), (1, .int p1)] := hl
  have hx := hC.1
  have hb := hC.2.1
  have hf : f_Mo_isKept G p1 = (f_Mo_within G p1 (G 16 12) (G 16 11)) := rfl
  refine lv_iload_n hx hb d_Mo_isKept_0 rfl (lv_at hl 1 rfl) ?_
  refine lv_aload_n hx hb d_Mo_isKept_1 rfl (lv_at hl 0 rfl) ?_
  refine gg_16_12 (x := (G 16 12)) hC hB rfl fl_Mo_66 d_Mo_isKept_2 ?_
  refine lv_aload_n hx hb d_Mo_isKept_5 rfl (lv_at hl 0 rfl) ?_
  refine gg_16_11 (x := (G 16 11)) hC hB rfl fl_Mo_57 d_Mo_isKept_6 ?_
  refine g_callSi (As := [.int p1, .int (G 16 12), .int (G 16 11)]) (rest := []) hC hB (c_Mo_within l G p1 (G 16 12) (G 16 11) O) rfl key_Mo_within rfl sta_Mo_within ml_Mo_46 rfl hl.1 ⟨Nat.le_of_ble_eq_true rfl, Nat.le_of_ble_eq_true rfl, Nat.le_of_ble_eq_true rfl, Nat.le_of_ble_eq_true rfl⟩ d_Mo_isKept_9 (fun H locs hB => ?_)
  exact g_zret hC hB hr hlk (by decide) (by decide) (z_Mo_within _ _ _ _) (by rw [hf]) rfl d_Mo_isKept_12
abbrev rm_Mo_look : Room := { frames := 2, cells := 0, slots := 0, locals := 28 }
def f_Mo_look (G : gT) (p1 : Int32) (p2 : Int32) : Int32 × gT := (if (f_Mo_isKept (g_up G 16 0 0) p1) = 0 then ((f_Mo_fail (g_up G 16 0 0) 1).1, (f_Mo_fail (g_up G 16 0 0) 1).2) else (if (f_Mo_within (g_up G 16 0 0) p2 0 268) = 0 then ((f_Mo_fail (g_up G 16 0 0) 2).1, (f_Mo_fail (g_up G 16 0 0) 2).2) else ((f_Mo_stateAt (g_up G 16 0 0) p1 p2), (g_up G 16 0 0))))
def ok_Mo_look (G : gT) (p1 : Int32) (p2 : Int32) : Prop := (((f_Mo_isKept (g_up G 16 0 0) p1) = 0 → True) ∧ (¬ (f_Mo_isKept (g_up G 16 0 0) p1) = 0 → (((f_Mo_within (g_up G 16 0 0) p2 0 268) = 0 → True) ∧ (¬ (f_Mo_within (g_up G 16 0 0) p2 0 268) = 0 → (ok_Mo_stateAt (g_up G 16 0 0) p1 p2 ∧ True)))))
set_option maxHeartbeats 4000000 in
set_option maxRecDepth 100000 in
theorem c_Mo_look (l : Launch) (G : gT) (p1 : Int32) (p2 : Int32) (O : Int64) (hok : ok_Mo_look G p1 p2) : gMet l y_Mo_look w_Mo_look rm_Mo_look (fun ad => [.ref (ad 16), .int p1, .int p2]) G O (.inl (some (.int (f_Mo_look G p1 p2).1))) ((f_Mo_look G p1 p2).2) O := by
  refine g_body (by decide) (gCode_of _ _ _ _) (fun ad => by simp [lg_sl, Value.category]) ?_
  intro p e s0 s m args below meth c D cI cL ad hC hr hlk htb hB ls hl
  have hC : CallFix p m c b_Mo_look 3 s args gtb R_Mo := hC
  have hl : lv_has ls 3 [(0, .ref (ad 16)), (1, .int p1), (2, .int p2)] := hl
  have hx := hC.1
  have hb := hC.2.1
  have hf : f_Mo_look G p1 p2 = (if (f_Mo_isKept (g_up G 16 0 0) p1) = 0 then ((f_Mo_fail (g_up G 16 0 0) 1).1, (f_Mo_fail (g_up G 16 0 0) 1).2) else (if (f_Mo_within (g_up G 16 0 0) p2 0 268) = 0 then ((f_Mo_fail (g_up G 16 0 0) 2).1, (f_Mo_fail (g_up G 16 0 0) 2).2) else ((f_Mo_stateAt (g_up G 16 0 0) p1 p2), (g_up G 16 0 0)))) := rfl
  have hok : (((f_Mo_isKept (g_up G 16 0 0) p1) = 0 → True) ∧ (¬ (f_Mo_isKept (g_up G 16 0 0) p1) = 0 → (((f_Mo_within (g_up G 16 0 0) p2 0 268) = 0 → True) ∧ (¬ (f_Mo_within (g_up G 16 0 0) p2 0 268) = 0 → (ok_Mo_stateAt (g_up G 16 0 0) p1 p2 ∧ True))))) := hok
  refine lv_aload_n hx hb d_Mo_look_0 rfl (lv_at hl 0 rfl) ?_
  refine lv_iconst (v := 0) hx hb d_Mo_look_1 (by decide) ?_
  refine gp_16_0 hC hB fl_Mo_43 d_Mo_look_2 (fun H locs hB => ?_)
  refine lv_aload_n hx hb d_Mo_look_5 rfl (lv_at hl 0 rfl) ?_
  refine lv_iload_n hx hb d_Mo_look_6 rfl (lv_at hl 1 rfl) ?_
  refine g_callVi (b := ad 16) (As := [.int p1]) (rest := []) hC hB (c_Mo_isKept l (g_up G 16 0 0) p1 O) rfl key_Mo_isKept rfl ins_Mo_isKept sel_Mo_isKept ml_Mo_97 (g_rec16 hB) rfl hl.1 ⟨Nat.le_of_ble_eq_true rfl, Nat.le_of_ble_eq_true rfl, Nat.le_of_ble_eq_true rfl, Nat.le_of_ble_eq_true rfl⟩ d_Mo_look_7 (fun H locs hB => ?_)
  refine lv_if_ne (tgt := 19) hx hb d_Mo_look_10 (by decide) (fun c1 => ?_) (fun c1 => ?_)
  · have hf := hf.trans (if_neg c1)
    have hok := hok.2 c1
    refine lv_iload_n hx hb d_Mo_look_19 rfl (lv_at hl 2 rfl) ?_
    refine lv_iconst (v := 0) hx hb d_Mo_look_20 (by decide) ?_
    refine lv_sipush (v := 268) hx hb d_Mo_look_21 (by decide) ?_
    refine g_callSi (As := [.int p2, .int 0, .int 268]) (rest := []) hC hB (c_Mo_within l (g_up G 16 0 0) p2 0 268 O) rfl key_Mo_within rfl sta_Mo_within ml_Mo_46 rfl hl.1 ⟨Nat.le_of_ble_eq_true rfl, Nat.le_of_ble_eq_true rfl, Nat.le_of_ble_eq_true rfl, Nat.le_of_ble_eq_true rfl⟩ d_Mo_look_24 (fun H locs hB => ?_)
    refine lv_if_eq (tgt := 39) hx hb d_Mo_look_27 (by decide) (fun c2 => ?_) (fun c2 => ?_)
    · have hf := hf.trans (if_pos c2)
      have hok := hok.1 c2
      refine lv_aload_n hx hb d_Mo_look_39 rfl (lv_at hl 0 rfl) ?_
      refine lv_iconst (v := 2) hx hb d_Mo_look_40 (by decide) ?_
      refine g_callVi (b := ad 16) (As := [.int 2]) (rest := []) hC hB (c_Mo_fail l (g_up G 16 0 0) 2 O) rfl key_Mo_fail rfl ins_Mo_fail sel_Mo_fail ml_Mo_50 (g_rec16 hB) rfl hl.1 ⟨Nat.le_of_ble_eq_true rfl, Nat.le_of_ble_eq_true rfl, Nat.le_of_ble_eq_true rfl, Nat.le_of_ble_eq_true rfl⟩ d_Mo_look_41 (fun H locs hB => ?_)
      exact g_iret hC hB hr hlk (by decide) (by decide) (by rw [hf]) (by rw [hf]) d_Mo_look_44
    · have hf := hf.trans (if_neg c2)
      have hok := hok.2 c2
      refine lv_aload_n hx hb d_Mo_look_30 rfl (lv_at hl 0 rfl) ?_
      refine lv_iload_n hx hb d_Mo_look_31 rfl (lv_at hl 1 rfl) ?_
      refine lv_iload_n hx hb d_Mo_look_32 rfl (lv_at hl 2 rfl) ?_
      refine g_callVi (b := ad 16) (As := [.int p1, .int p2]) (rest := []) hC hB (c_Mo_stateAt l (g_up G 16 0 0) p1 p2 O hok.1) rfl key_Mo_stateAt rfl ins_Mo_stateAt sel_Mo_stateAt ml_Mo_101 (g_rec16 hB) rfl hl.1 ⟨Nat.le_of_ble_eq_true rfl, Nat.le_of_ble_eq_true rfl, Nat.le_of_ble_eq_true rfl, Nat.le_of_ble_eq_true rfl⟩ d_Mo_look_33 (fun H locs hB => ?_)
      have hok := hok.2
      refine lv_goto (tgt := 44) hx hb d_Mo_look_36 (by decide) ?_
      exact g_iret hC hB hr hlk (by decide) (by decide) (by rw [hf]) (by rw [hf]) d_Mo_look_44
  · have hf := hf.trans (if_pos c1)
    have hok := hok.1 c1
    refine lv_aload_n hx hb d_Mo_look_13 rfl (lv_at hl 0 rfl) ?_
    refine lv_iconst (v := 1) hx hb d_Mo_look_14 (by decide) ?_
    refine g_callVi (b := ad 16) (As := [.int 1]) (rest := []) hC hB (c_Mo_fail l (g_up G 16 0 0) 1 O) rfl key_Mo_fail rfl ins_Mo_fail sel_Mo_fail ml_Mo_50 (g_rec16 hB) rfl hl.1 ⟨Nat.le_of_ble_eq_true rfl, Nat.le_of_ble_eq_true rfl, Nat.le_of_ble_eq_true rfl, Nat.le_of_ble_eq_true rfl⟩ d_Mo_look_15 (fun H locs hB => ?_)
    exact g_iret hC hB hr hlk (by decide) (by decide) (by rw [hf]) (by rw [hf]) d_Mo_look_18
abbrev rm_Mo_cost : Room := { frames := 1, cells := 0, slots := 0, locals := 14 }
def f_Mo_cost (G : gT) (p1 : Int32) : Int32 × gT := (if (f_Mo_within (g_up G 16 0 0) p1 (G 16 12) ((G 16 11) - 1)) = 0 then ((f_Mo_fail (g_up G 16 0 0) 1).1, (f_Mo_fail (g_up G 16 0 0) 1).2) else ((G 22 ((f_Mo_slot (g_up G 16 0 0) p1).toNatClampNeg)), (g_up G 16 0 0)))
def ok_Mo_cost (G : gT) (p1 : Int32) : Prop := (((f_Mo_within (g_up G 16 0 0) p1 (G 16 12) ((G 16 11) - 1)) = 0 → True) ∧ (¬ (f_Mo_within (g_up G 16 0 0) p1 (G 16 12) ((G 16 11) - 1)) = 0 → (vp_in (f_Mo_slot (g_up G 16 0 0) p1) 1025 ∧ True)))
set_option maxHeartbeats 4000000 in
set_option maxRecDepth 100000 in
theorem c_Mo_cost (l : Launch) (G : gT) (p1 : Int32) (O : Int64) (hok : ok_Mo_cost G p1) : gMet l y_Mo_cost w_Mo_cost rm_Mo_cost (fun ad => [.ref (ad 16), .int p1]) G O (.inl (some (.int (f_Mo_cost G p1).1))) ((f_Mo_cost G p1).2) O := by
  refine g_body (by decide) (gCode_of _ _ _ _) (fun ad => by simp [lg_sl, Value.category]) ?_
  intro p e s0 s m args below meth c D cI cL ad hC hr hlk htb hB ls hl
  have hC : CallFix p m c b_Mo_cost 2 s args gtb R_Mo := hC
  have hl : lv_has ls 2 [(0, .ref (ad 16)), (1, .int p1)] := hl
  have hx := hC.1
  have hb := hC.2.1
  have hf : f_Mo_cost G p1 = (if (f_Mo_within (g_up G 16 0 0) p1 (G 16 12) ((G 16 11) - 1)) = 0 then ((f_Mo_fail (g_up G 16 0 0) 1).1, (f_Mo_fail (g_up G 16 0 0) 1).2) else ((G 22 ((f_Mo_slot (g_up G 16 0 0) p1).toNatClampNeg)), (g_up G 16 0 0))) := rfl
  have hok : (((f_Mo_within (g_up G 16 0 0) p1 (G 16 12) ((G 16 11) - 1)) = 0 → True) ∧ (¬ (f_Mo_within (g_up G 16 0 0) p1 (G 16 12) ((G 16 11) - 1)) = 0 → (vp_in (f_Mo_slot (g_up G 16 0 0) p1) 1025 ∧ True))) := hok
  refine lv_aload_n hx hb d_Mo_cost_0 rfl (lv_at hl 0 rfl) ?_
  refine lv_iconst (v := 0) hx hb d_Mo_cost_1 (by decide) ?_
  refine gp_16_0 hC hB fl_Mo_43 d_Mo_cost_2 (fun H locs hB => ?_)
  refine lv_iload_n hx hb d_Mo_cost_5 rfl (lv_at hl 1 rfl) ?_
  refine lv_aload_n hx hb d_Mo_cost_6 rfl (lv_at hl 0 rfl) ?_
  refine gg_16_12 (x := (G 16 12)) hC hB rfl fl_Mo_66 d_Mo_cost_7 ?_
  refine lv_aload_n hx hb d_Mo_cost_10 rfl (lv_at hl 0 rfl) ?_
  refine gg_16_11 (x := (G 16 11)) hC hB rfl fl_Mo_57 d_Mo_cost_11 ?_
  refine lv_iconst (v := 1) hx hb d_Mo_cost_14 (by decide) ?_
  refine lv_isub hx hb d_Mo_cost_15 ?_
  refine g_callSi (As := [.int p1, .int (G 16 12), .int ((G 16 11) - 1)]) (rest := []) hC hB (c_Mo_within l (g_up G 16 0 0) p1 (G 16 12) ((G 16 11) - 1) O) rfl key_Mo_within rfl sta_Mo_within ml_Mo_46 rfl hl.1 ⟨Nat.le_of_ble_eq_true rfl, Nat.le_of_ble_eq_true rfl, Nat.le_of_ble_eq_true rfl, Nat.le_of_ble_eq_true rfl⟩ d_Mo_cost_16 (fun H locs hB => ?_)
  refine lv_if_eq (tgt := 34) hx hb d_Mo_cost_19 (by decide) (fun c1 => ?_) (fun c1 => ?_)
  · have hf := hf.trans (if_pos c1)
    have hok := hok.1 c1
    refine lv_aload_n hx hb d_Mo_cost_34 rfl (lv_at hl 0 rfl) ?_
    refine lv_iconst (v := 1) hx hb d_Mo_cost_35 (by decide) ?_
    refine g_callVi (b := ad 16) (As := [.int 1]) (rest := []) hC hB (c_Mo_fail l (g_up G 16 0 0) 1 O) rfl key_Mo_fail rfl ins_Mo_fail sel_Mo_fail ml_Mo_50 (g_rec16 hB) rfl hl.1 ⟨Nat.le_of_ble_eq_true rfl, Nat.le_of_ble_eq_true rfl, Nat.le_of_ble_eq_true rfl, Nat.le_of_ble_eq_true rfl⟩ d_Mo_cost_36 (fun H locs hB => ?_)
    exact g_iret hC hB hr hlk (by decide) (by decide) (by rw [hf]) (by rw [hf]) d_Mo_cost_39
  · have hf := hf.trans (if_neg c1)
    have hok := hok.2 c1
    refine lv_aload_n hx hb d_Mo_cost_22 rfl (lv_at hl 0 rfl) ?_
    refine gr_16_9 hC hB fl_Mo_26 d_Mo_cost_23 ?_
    refine lv_iload_n hx hb d_Mo_cost_26 rfl (lv_at hl 1 rfl) ?_
    refine g_callSi (As := [.int p1]) (rest := [.ref (ad 22)]) hC hB (c_Mo_slot l (g_up G 16 0 0) p1 O) rfl key_Mo_slot rfl sta_Mo_slot ml_Mo_60 rfl hl.1 ⟨Nat.le_of_ble_eq_true rfl, Nat.le_of_ble_eq_true rfl, Nat.le_of_ble_eq_true rfl, Nat.le_of_ble_eq_true rfl⟩ d_Mo_cost_27 (fun H locs hB => ?_)
    refine ga_22 (x := (G 22 ((f_Mo_slot (g_up G 16 0 0) p1).toNatClampNeg))) hC hB hok.1 rfl d_Mo_cost_30 ?_
    have hok := hok.2
    refine lv_goto (tgt := 39) hx hb d_Mo_cost_31 (by decide) ?_
    exact g_iret hC hB hr hlk (by decide) (by decide) (by rw [hf]) (by rw [hf]) d_Mo_cost_39
abbrev rm_Mo_waits : Room := { frames := 1, cells := 0, slots := 0, locals := 12 }
def f_Mo_waits (G : gT) : Int32 := (if (f_Mo_kindOf G (G 17 ((G 19 264).toNatClampNeg))) = 8 then (if (G 19 265) = (G 16 4) then 1 else 0) else 0)
def ok_Mo_waits (G : gT) : Prop := (vp_in (G 19 264) 64 ∧ True)
set_option maxHeartbeats 4000000 in
set_option maxRecDepth 100000 in
theorem c_Mo_waits (l : Launch) (G : gT) (O : Int64) (hok : ok_Mo_waits G) : gMet l y_Mo_waits w_Mo_waits rm_Mo_waits (fun ad => [.ref (ad 16)]) G O (.inl (some (.int (f_Mo_waits G)))) G O := by
  refine g_body (by decide) (gCode_of _ _ _ _) (fun ad => by simp [lg_sl, Value.category]) ?_
  intro p e s0 s m args below meth c D cI cL ad hC hr hlk htb hB ls hl
  have hC : CallFix p m c b_Mo_waits 1 s args gtb R_Mo := hC
  have hl : lv_has ls 1 [(0, .ref (ad 16))] := hl
  have hx := hC.1
  have hb := hC.2.1
  have hf : f_Mo_waits G = (if (f_Mo_kindOf G (G 17 ((G 19 264).toNatClampNeg))) = 8 then (if (G 19 265) = (G 16 4) then 1 else 0) else 0) := rfl
  have hok : (vp_in (G 19 264) 64 ∧ True) := hok
  refine lv_aload_n hx hb d_Mo_waits_0 rfl (lv_at hl 0 rfl) ?_
  refine gr_16_3 hC hB fl_Mo_7 d_Mo_waits_1 ?_
  refine lv_aload_n hx hb d_Mo_waits_4 rfl (lv_at hl 0 rfl) ?_
  refine gr_16_6 hC hB fl_Mo_16 d_Mo_waits_5 ?_
  refine lv_sipush (v := 264) hx hb d_Mo_waits_8 (by decide) ?_
  refine ga_19 (x := (G 19 264)) hC hB (by decide) rfl d_Mo_waits_11 ?_
  refine ga_17 (x := (G 17 ((G 19 264).toNatClampNeg))) hC hB hok.1 rfl d_Mo_waits_12 ?_
  have hok := hok.2
  refine g_callSi (As := [.int (G 17 ((G 19 264).toNatClampNeg))]) (rest := []) hC hB (c_Mo_kindOf l G (G 17 ((G 19 264).toNatClampNeg)) O) rfl key_Mo_kindOf rfl sta_Mo_kindOf ml_Mo_69 rfl hl.1 ⟨Nat.le_of_ble_eq_true rfl, Nat.le_of_ble_eq_true rfl, Nat.le_of_ble_eq_true rfl, Nat.le_of_ble_eq_true rfl⟩ d_Mo_waits_13 (fun H locs hB => ?_)
  refine lv_bipush (v := 8) hx hb d_Mo_waits_16 (by decide) ?_
  refine lv_icmp_ne (tgt := 40) hx hb d_Mo_waits_18 (by decide) (fun c1 => ?_) (fun c1 => ?_)
  · have hf := hf.trans (if_neg c1)
    refine lv_iconst (v := 0) hx hb d_Mo_waits_40 (by decide) ?_
    exact g_zret hC hB hr hlk (by decide) (by decide) (by decide) (by rw [hf]) rfl d_Mo_waits_41
  · have hf := hf.trans (if_pos c1)
    refine lv_aload_n hx hb d_Mo_waits_21 rfl (lv_at hl 0 rfl) ?_
    refine gr_16_6 hC hB fl_Mo_16 d_Mo_waits_22 ?_
    refine lv_sipush (v := 265) hx hb d_Mo_waits_25 (by decide) ?_
    refine ga_19 (x := (G 19 265)) hC hB (by decide) rfl d_Mo_waits_28 ?_
    refine lv_aload_n hx hb d_Mo_waits_29 rfl (lv_at hl 0 rfl) ?_
    refine gg_16_4 (x := (G 16 4)) hC hB rfl fl_Mo_54 d_Mo_waits_30 ?_
    refine lv_icmp_ne (tgt := 40) hx hb d_Mo_waits_33 (by decide) (fun c2 => ?_) (fun c2 => ?_)
    · have hf := hf.trans (if_neg c2)
      refine lv_iconst (v := 0) hx hb d_Mo_waits_40 (by decide) ?_
      exact g_zret hC hB hr hlk (by decide) (by decide) (by decide) (by rw [hf]) rfl d_Mo_waits_41
    · have hf := hf.trans (if_pos c2)
      refine lv_iconst (v := 1) hx hb d_Mo_waits_36 (by decide) ?_
      refine lv_goto (tgt := 41) hx hb d_Mo_waits_37 (by decide) ?_
      exact g_zret hC hB hr hlk (by decide) (by decide) (by decide) (by rw [hf]) rfl d_Mo_waits_41
end
section
abbrev rm_Mo_advance_20 : Room := { frames := 1, cells := 0, slots := 0, locals := 15 }
def f_Mo_advance_20 (G : gT) (p2 : Int32) : Int32 × gT := (if (f_Mo_kindOf G (G 17 ((G 20 264).toNatClampNeg))) = 8 then (if (G 20 265) < p2 then (if (f_Mo_kindOf G (G 17 ((G 20 264).toNatClampNeg))) = 0 then (if (f_Mo_kindOf G (G 17 ((G 20 264).toNatClampNeg))) = 0 then (1, (g_up (g_up G 16 14 (-1)) 20 268 1)) else (1, (g_up (g_up G 16 14 (-1)) 20 268 2))) else (if (f_Mo_kindOf G (G 17 ((G 20 264).toNatClampNeg))) ≤ 12 then (if (f_Mo_kindOf G (G 17 ((G 20 264).toNatClampNeg))) = 7 then (if (G 20 ((((G 17 ((G 20 264).toNatClampNeg)) >>> (24 &&& 31)) &&& 7).toNatClampNeg)) = 0 then (1, (g_up (g_up G 16 14 (-1)) 20 264 (((G 20 264) + 1) &&& 63))) else (1, (g_up (g_up G 16 14 (-1)) 20 264 (((G 20 264) + (((G 17 ((G 20 264).toNatClampNeg)) <<< (16 &&& 31)) >>> (16 &&& 31))) &&& 63)))) else (if (f_Mo_kindOf G (G 17 ((G 20 264).toNatClampNeg))) = 9 then (1, (g_up (g_up (g_up (g_up G 16 14 (-1)) 20 266 ((G 20 266) + 1)) 20 267 ((31 * (G 20 267)) + ((g_up (g_up G 16 14 (-1)) 20 266 ((G 20 266) + 1)) 20 ((((G 17 ((G 20 264).toNatClampNeg)) >>> (24 &&& 31)) &&& 7).toNatClampNeg)))) 20 264 (((G 20 264) + 1) &&& 63))) else (if (f_Mo_kindOf G (G 17 ((G 20 264).toNatClampNeg))) = 6 then (1, (g_up (g_up (g_up (g_up G 16 14 (-1)) 16 14 (8 + (((G 20 ((((G 17 ((G 20 264).toNatClampNeg)) >>> (20 &&& 31)) &&& 7).toNatClampNeg)) + (((G 17 ((G 20 264).toNatClampNeg)) <<< (16 &&& 31)) >>> (16 &&& 31))) &&& 255))) 20 ((8 + (((G 20 ((((G 17 ((G 20 264).toNatClampNeg)) >>> (20 &&& 31)) &&& 7).toNatClampNeg)) + (((G 17 ((G 20 264).toNatClampNeg)) <<< (16 &&& 31)) >>> (16 &&& 31))) &&& 255)).toNatClampNeg) (G 20 ((((G 17 ((G 20 264).toNatClampNeg)) >>> (24 &&& 31)) &&& 7).toNatClampNeg))) 20 264 (((G 20 264) + 1) &&& 63))) else (if (f_Mo_kindOf G (G 17 ((G 20 264).toNatClampNeg))) = 5 then (if (f_Mo_kindOf G (G 17 ((G 20 264).toNatClampNeg))) = 8 then (1, (g_up (g_up (g_up (g_up (g_up G 16 14 (-1)) 20 265 ((G 20 265) + 1)) 20 ((((G 17 ((G 20 264).toNatClampNeg)) >>> (24 &&& 31)) &&& 7).toNatClampNeg) (G 20 ((8 + (((G 20 ((((G 17 ((G 20 264).toNatClampNeg)) >>> (20 &&& 31)) &&& 7).toNatClampNeg)) + (((G 17 ((G 20 264).toNatClampNeg)) <<< (16 &&& 31)) >>> (16 &&& 31))) &&& 255)).toNatClampNeg))) 16 14 (((G 17 ((G 20 264).toNatClampNeg)) >>> (24 &&& 31)) &&& 7)) 20 264 (((G 20 264) + 1) &&& 63))) else (1, (g_up (g_up (g_up (g_up (g_up G 16 14 (-1)) 20 265 ((G 20 265) + 0)) 20 ((((G 17 ((G 20 264).toNatClampNeg)) >>> (24 &&& 31)) &&& 7).toNatClampNeg) (G 20 ((8 + (((G 20 ((((G 17 ((G 20 264).toNatClampNeg)) >>> (20 &&& 31)) &&& 7).toNatClampNeg)) + (((G 17 ((G 20 264).toNatClampNeg)) <<< (16 &&& 31)) >>> (16 &&& 31))) &&& 255)).toNatClampNeg))) 16 14 (((G 17 ((G 20 264).toNatClampNeg)) >>> (24 &&& 31)) &&& 7)) 20 264 (((G 20 264) + 1) &&& 63)))) else (if (f_Mo_kindOf G (G 17 ((G 20 264).toNatClampNeg))) = 8 then (if (f_Mo_kindOf G (G 17 ((G 20 264).toNatClampNeg))) = 8 then (1, (g_up (g_up (g_up (g_up (g_up G 16 14 (-1)) 20 265 ((G 20 265) + 1)) 20 ((((G 17 ((G 20 264).toNatClampNeg)) >>> (24 &&& 31)) &&& 7).toNatClampNeg) (G 18 ((G 20 265).toNatClampNeg))) 16 14 (((G 17 ((G 20 264).toNatClampNeg)) >>> (24 &&& 31)) &&& 7)) 20 264 (((G 20 264) + 1) &&& 63))) else (1, (g_up (g_up (g_up (g_up (g_up G 16 14 (-1)) 20 265 ((G 20 265) + 0)) 20 ((((G 17 ((G 20 264).toNatClampNeg)) >>> (24 &&& 31)) &&& 7).toNatClampNeg) (G 18 ((G 20 265).toNatClampNeg))) 16 14 (((G 17 ((G 20 264).toNatClampNeg)) >>> (24 &&& 31)) &&& 7)) 20 264 (((G 20 264) + 1) &&& 63)))) else (if (f_Mo_kindOf G (G 17 ((G 20 264).toNatClampNeg))) = 8 then (1, (g_up (g_up (g_up (g_up (g_up G 16 14 (-1)) 20 265 ((G 20 265) + 1)) 20 ((((G 17 ((G 20 264).toNatClampNeg)) >>> (24 &&& 31)) &&& 7).toNatClampNeg) (f_Mo_result (g_up G 16 14 (-1)) (f_Mo_kindOf G (G 17 ((G 20 264).toNatClampNeg))) (G 20 ((((G 17 ((G 20 264).toNatClampNeg)) >>> (20 &&& 31)) &&& 7).toNatClampNeg)) (G 20 ((((G 17 ((G 20 264).toNatClampNeg)) >>> (16 &&& 31)) &&& 7).toNatClampNeg)) (((G 17 ((G 20 264).toNatClampNeg)) <<< (16 &&& 31)) >>> (16 &&& 31)))) 16 14 (((G 17 ((G 20 264).toNatClampNeg)) >>> (24 &&& 31)) &&& 7)) 20 264 (((G 20 264) + 1) &&& 63))) else (1, (g_up (g_up (g_up (g_up (g_up G 16 14 (-1)) 20 265 ((G 20 265) + 0)) 20 ((((G 17 ((G 20 264).toNatClampNeg)) >>> (24 &&& 31)) &&& 7).toNatClampNeg) (f_Mo_result (g_up G 16 14 (-1)) (f_Mo_kindOf G (G 17 ((G 20 264).toNatClampNeg))) (G 20 ((((G 17 ((G 20 264).toNatClampNeg)) >>> (20 &&& 31)) &&& 7).toNatClampNeg)) (G 20 ((((G 17 ((G 20 264).toNatClampNeg)) >>> (16 &&& 31)) &&& 7).toNatClampNeg)) (((G 17 ((G 20 264).toNatClampNeg)) <<< (16 &&& 31)) >>> (16 &&& 31)))) 16 14 (((G 17 ((G 20 264).toNatClampNeg)) >>> (24 &&& 31)) &&& 7)) 20 264 (((G 20 264) + 1) &&& 63))))))))) else (if (f_Mo_kindOf G (G 17 ((G 20 264).toNatClampNeg))) = 0 then (1, (g_up (g_up G 16 14 (-1)) 20 268 1)) else (1, (g_up (g_up G 16 14 (-1)) 20 268 2))))) else (0, (g_up G 16 14 (-1)))) else (if (f_Mo_kindOf G (G 17 ((G 20 264).toNatClampNeg))) = 0 then (if (f_Mo_kindOf G (G 17 ((G 20 264).toNatClampNeg))) = 0 then (1, (g_up (g_up G 16 14 (-1)) 20 268 1)) else (1, (g_up (g_up G 16 14 (-1)) 20 268 2))) else (if (f_Mo_kindOf G (G 17 ((G 20 264).toNatClampNeg))) ≤ 12 then (if (f_Mo_kindOf G (G 17 ((G 20 264).toNatClampNeg))) = 7 then (if (G 20 ((((G 17 ((G 20 264).toNatClampNeg)) >>> (24 &&& 31)) &&& 7).toNatClampNeg)) = 0 then (1, (g_up (g_up G 16 14 (-1)) 20 264 (((G 20 264) + 1) &&& 63))) else (1, (g_up (g_up G 16 14 (-1)) 20 264 (((G 20 264) + (((G 17 ((G 20 264).toNatClampNeg)) <<< (16 &&& 31)) >>> (16 &&& 31))) &&& 63)))) else (if (f_Mo_kindOf G (G 17 ((G 20 264).toNatClampNeg))) = 9 then (1, (g_up (g_up (g_up (g_up G 16 14 (-1)) 20 266 ((G 20 266) + 1)) 20 267 ((31 * (G 20 267)) + ((g_up (g_up G 16 14 (-1)) 20 266 ((G 20 266) + 1)) 20 ((((G 17 ((G 20 264).toNatClampNeg)) >>> (24 &&& 31)) &&& 7).toNatClampNeg)))) 20 264 (((G 20 264) + 1) &&& 63))) else (if (f_Mo_kindOf G (G 17 ((G 20 264).toNatClampNeg))) = 6 then (1, (g_up (g_up (g_up (g_up G 16 14 (-1)) 16 14 (8 + (((G 20 ((((G 17 ((G 20 264).toNatClampNeg)) >>> (20 &&& 31)) &&& 7).toNatClampNeg)) + (((G 17 ((G 20 264).toNatClampNeg)) <<< (16 &&& 31)) >>> (16 &&& 31))) &&& 255))) 20 ((8 + (((G 20 ((((G 17 ((G 20 264).toNatClampNeg)) >>> (20 &&& 31)) &&& 7).toNatClampNeg)) + (((G 17 ((G 20 264).toNatClampNeg)) <<< (16 &&& 31)) >>> (16 &&& 31))) &&& 255)).toNatClampNeg) (G 20 ((((G 17 ((G 20 264).toNatClampNeg)) >>> (24 &&& 31)) &&& 7).toNatClampNeg))) 20 264 (((G 20 264) + 1) &&& 63))) else (if (f_Mo_kindOf G (G 17 ((G 20 264).toNatClampNeg))) = 5 then (if (f_Mo_kindOf G (G 17 ((G 20 264).toNatClampNeg))) = 8 then (1, (g_up (g_up (g_up (g_up (g_up G 16 14 (-1)) 20 265 ((G 20 265) + 1)) 20 ((((G 17 ((G 20 264).toNatClampNeg)) >>> (24 &&& 31)) &&& 7).toNatClampNeg) (G 20 ((8 + (((G 20 ((((G 17 ((G 20 264).toNatClampNeg)) >>> (20 &&& 31)) &&& 7).toNatClampNeg)) + (((G 17 ((G 20 264).toNatClampNeg)) <<< (16 &&& 31)) >>> (16 &&& 31))) &&& 255)).toNatClampNeg))) 16 14 (((G 17 ((G 20 264).toNatClampNeg)) >>> (24 &&& 31)) &&& 7)) 20 264 (((G 20 264) + 1) &&& 63))) else (1, (g_up (g_up (g_up (g_up (g_up G 16 14 (-1)) 20 265 ((G 20 265) + 0)) 20 ((((G 17 ((G 20 264).toNatClampNeg)) >>> (24 &&& 31)) &&& 7).toNatClampNeg) (G 20 ((8 + (((G 20 ((((G 17 ((G 20 264).toNatClampNeg)) >>> (20 &&& 31)) &&& 7).toNatClampNeg)) + (((G 17 ((G 20 264).toNatClampNeg)) <<< (16 &&& 31)) >>> (16 &&& 31))) &&& 255)).toNatClampNeg))) 16 14 (((G 17 ((G 20 264).toNatClampNeg)) >>> (24 &&& 31)) &&& 7)) 20 264 (((G 20 264) + 1) &&& 63)))) else (if (f_Mo_kindOf G (G 17 ((G 20 264).toNatClampNeg))) = 8 then (if (f_Mo_kindOf G (G 17 ((G 20 264).toNatClampNeg))) = 8 then (1, (g_up (g_up (g_up (g_up (g_up G 16 14 (-1)) 20 265 ((G 20 265) + 1)) 20 ((((G 17 ((G 20 264).toNatClampNeg)) >>> (24 &&& 31)) &&& 7).toNatClampNeg) (G 18 ((G 20 265).toNatClampNeg))) 16 14 (((G 17 ((G 20 264).toNatClampNeg)) >>> (24 &&& 31)) &&& 7)) 20 264 (((G 20 264) + 1) &&& 63))) else (1, (g_up (g_up (g_up (g_up (g_up G 16 14 (-1)) 20 265 ((G 20 265) + 0)) 20 ((((G 17 ((G 20 264).toNatClampNeg)) >>> (24 &&& 31)) &&& 7).toNatClampNeg) (G 18 ((G 20 265).toNatClampNeg))) 16 14 (((G 17 ((G 20 264).toNatClampNeg)) >>> (24 &&& 31)) &&& 7)) 20 264 (((G 20 264) + 1) &&& 63)))) else (if (f_Mo_kindOf G (G 17 ((G 20 264).toNatClampNeg))) = 8 then (1, (g_up (g_up (g_up (g_up (g_up G 16 14 (-1)) 20 265 ((G 20 265) + 1)) 20 ((((G 17 ((G 20 264).toNatClampNeg)) >>> (24 &&& 31)) &&& 7).toNatClampNeg) (f_Mo_result (g_up G 16 14 (-1)) (f_Mo_kindOf G (G 17 ((G 20 264).toNatClampNeg))) (G 20 ((((G 17 ((G 20 264).toNatClampNeg)) >>> (20 &&& 31)) &&& 7).toNatClampNeg)) (G 20 ((((G 17 ((G 20 264).toNatClampNeg)) >>> (16 &&& 31)) &&& 7).toNatClampNeg)) (((G 17 ((G 20 264).toNatClampNeg)) <<< (16 &&& 31)) >>> (16 &&& 31)))) 16 14 (((G 17 ((G 20 264).toNatClampNeg)) >>> (24 &&& 31)) &&& 7)) 20 264 (((G 20 264) + 1) &&& 63))) else (1, (g_up (g_up (g_up (g_up (g_up G 16 14 (-1)) 20 265 ((G 20 265) + 0)) 20 ((((G 17 ((G 20 264).toNatClampNeg)) >>> (24 &&& 31)) &&& 7).toNatClampNeg) (f_Mo_result (g_up G 16 14 (-1)) (f_Mo_kindOf G (G 17 ((G 20 264).toNatClampNeg))) (G 20 ((((G 17 ((G 20 264).toNatClampNeg)) >>> (20 &&& 31)) &&& 7).toNatClampNeg)) (G 20 ((((G 17 ((G 20 264).toNatClampNeg)) >>> (16 &&& 31)) &&& 7).toNatClampNeg)) (((G 17 ((G 20 264).toNatClampNeg)) <<< (16 &&& 31)) >>> (16 &&& 31)))) 16 14 (((G 17 ((G 20 264).toNatClampNeg)) >>> (24 &&& 31)) &&& 7)) 20 264 (((G 20 264) + 1) &&& 63))))))))) else (if (f_Mo_kindOf G (G 17 ((G 20 264).toNatClampNeg))) = 0 then (1, (g_up (g_up G 16 14 (-1)) 20 268 1)) else (1, (g_up (g_up G 16 14 (-1)) 20 268 2))))))
def ok_Mo_advance_20 (G : gT) (p2 : Int32) : Prop := (vp_in (G 20 264) 64 ∧ (((f_Mo_kindOf G (G 17 ((G 20 264).toNatClampNeg))) = 8 → (((G 20 265) < p2 → (((f_Mo_kindOf G (G 17 ((G 20 264).toNatClampNeg))) = 0 → True) ∧ (¬ (f_Mo_kindOf G (G 17 ((G 20 264).toNatClampNeg))) = 0 → (((f_Mo_kindOf G (G 17 ((G 20 264).toNatClampNeg))) ≤ 12 → (((f_Mo_kindOf G (G 17 ((G 20 264).toNatClampNeg))) = 7 → (vp_in (((G 17 ((G 20 264).toNatClampNeg)) >>> (24 &&& 31)) &&& 7) 269 ∧ True)) ∧ (¬ (f_Mo_kindOf G (G 17 ((G 20 264).toNatClampNeg))) = 7 → (((f_Mo_kindOf G (G 17 ((G 20 264).toNatClampNeg))) = 9 → (vp_in (((G 17 ((G 20 264).toNatClampNeg)) >>> (24 &&& 31)) &&& 7) 269 ∧ True)) ∧ (¬ (f_Mo_kindOf G (G 17 ((G 20 264).toNatClampNeg))) = 9 → (((f_Mo_kindOf G (G 17 ((G 20 264).toNatClampNeg))) = 6 → (vp_in (((G 17 ((G 20 264).toNatClampNeg)) >>> (20 &&& 31)) &&& 7) 269 ∧ (vp_in (((G 17 ((G 20 264).toNatClampNeg)) >>> (24 &&& 31)) &&& 7) 269 ∧ (vp_in (8 + (((G 20 ((((G 17 ((G 20 264).toNatClampNeg)) >>> (20 &&& 31)) &&& 7).toNatClampNeg)) + (((G 17 ((G 20 264).toNatClampNeg)) <<< (16 &&& 31)) >>> (16 &&& 31))) &&& 255)) 269 ∧ True)))) ∧ (¬ (f_Mo_kindOf G (G 17 ((G 20 264).toNatClampNeg))) = 6 → (((f_Mo_kindOf G (G 17 ((G 20 264).toNatClampNeg))) = 5 → (vp_in (((G 17 ((G 20 264).toNatClampNeg)) >>> (20 &&& 31)) &&& 7) 269 ∧ (vp_in (8 + (((G 20 ((((G 17 ((G 20 264).toNatClampNeg)) >>> (20 &&& 31)) &&& 7).toNatClampNeg)) + (((G 17 ((G 20 264).toNatClampNeg)) <<< (16 &&& 31)) >>> (16 &&& 31))) &&& 255)) 269 ∧ (((f_Mo_kindOf G (G 17 ((G 20 264).toNatClampNeg))) = 8 → (vp_in (((G 17 ((G 20 264).toNatClampNeg)) >>> (24 &&& 31)) &&& 7) 269 ∧ True)) ∧ (¬ (f_Mo_kindOf G (G 17 ((G 20 264).toNatClampNeg))) = 8 → (vp_in (((G 17 ((G 20 264).toNatClampNeg)) >>> (24 &&& 31)) &&& 7) 269 ∧ True)))))) ∧ (¬ (f_Mo_kindOf G (G 17 ((G 20 264).toNatClampNeg))) = 5 → (((f_Mo_kindOf G (G 17 ((G 20 264).toNatClampNeg))) = 8 → (vp_in (G 20 265) 200 ∧ (((f_Mo_kindOf G (G 17 ((G 20 264).toNatClampNeg))) = 8 → (vp_in (((G 17 ((G 20 264).toNatClampNeg)) >>> (24 &&& 31)) &&& 7) 269 ∧ True)) ∧ (¬ (f_Mo_kindOf G (G 17 ((G 20 264).toNatClampNeg))) = 8 → (vp_in (((G 17 ((G 20 264).toNatClampNeg)) >>> (24 &&& 31)) &&& 7) 269 ∧ True))))) ∧ (¬ (f_Mo_kindOf G (G 17 ((G 20 264).toNatClampNeg))) = 8 → (vp_in (((G 17 ((G 20 264).toNatClampNeg)) >>> (20 &&& 31)) &&& 7) 269 ∧ (vp_in (((G 17 ((G 20 264).toNatClampNeg)) >>> (16 &&& 31)) &&& 7) 269 ∧ (((f_Mo_kindOf G (G 17 ((G 20 264).toNatClampNeg))) = 8 → (vp_in (((G 17 ((G 20 264).toNatClampNeg)) >>> (24 &&& 31)) &&& 7) 269 ∧ True)) ∧ (¬ (f_Mo_kindOf G (G 17 ((G 20 264).toNatClampNeg))) = 8 → (vp_in (((G 17 ((G 20 264).toNatClampNeg)) >>> (24 &&& 31)) &&& 7) 269 ∧ True)))))))))))))))) ∧ (¬ (f_Mo_kindOf G (G 17 ((G 20 264).toNatClampNeg))) ≤ 12 → True))))) ∧ (¬ (G 20 265) < p2 → True))) ∧ (¬ (f_Mo_kindOf G (G 17 ((G 20 264).toNatClampNeg))) = 8 → (((f_Mo_kindOf G (G 17 ((G 20 264).toNatClampNeg))) = 0 → True) ∧ (¬ (f_Mo_kindOf G (G 17 ((G 20 264).toNatClampNeg))) = 0 → (((f_Mo_kindOf G (G 17 ((G 20 264).toNatClampNeg))) ≤ 12 → (((f_Mo_kindOf G (G 17 ((G 20 264).toNatClampNeg))) = 7 → (vp_in (((G 17 ((G 20 264).toNatClampNeg)) >>> (24 &&& 31)) &&& 7) 269 ∧ True)) ∧ (¬ (f_Mo_kindOf G (G 17 ((G 20 264).toNatClampNeg))) = 7 → (((f_Mo_kindOf G (G 17 ((G 20 264).toNatClampNeg))) = 9 → (vp_in (((G 17 ((G 20 264).toNatClampNeg)) >>> (24 &&& 31)) &&& 7) 269 ∧ True)) ∧ (¬ (f_Mo_kindOf G (G 17 ((G 20 264).toNatClampNeg))) = 9 → (((f_Mo_kindOf G (G 17 ((G 20 264).toNatClampNeg))) = 6 → (vp_in (((G 17 ((G 20 264).toNatClampNeg)) >>> (20 &&& 31)) &&& 7) 269 ∧ (vp_in (((G 17 ((G 20 264).toNatClampNeg)) >>> (24 &&& 31)) &&& 7) 269 ∧ (vp_in (8 + (((G 20 ((((G 17 ((G 20 264).toNatClampNeg)) >>> (20 &&& 31)) &&& 7).toNatClampNeg)) + (((G 17 ((G 20 264).toNatClampNeg)) <<< (16 &&& 31)) >>> (16 &&& 31))) &&& 255)) 269 ∧ True)))) ∧ (¬ (f_Mo_kindOf G (G 17 ((G 20 264).toNatClampNeg))) = 6 → (((f_Mo_kindOf G (G 17 ((G 20 264).toNatClampNeg))) = 5 → (vp_in (((G 17 ((G 20 264).toNatClampNeg)) >>> (20 &&& 31)) &&& 7) 269 ∧ (vp_in (8 + (((G 20 ((((G 17 ((G 20 264).toNatClampNeg)) >>> (20 &&& 31)) &&& 7).toNatClampNeg)) + (((G 17 ((G 20 264).toNatClampNeg)) <<< (16 &&& 31)) >>> (16 &&& 31))) &&& 255)) 269 ∧ (((f_Mo_kindOf G (G 17 ((G 20 264).toNatClampNeg))) = 8 → (vp_in (((G 17 ((G 20 264).toNatClampNeg)) >>> (24 &&& 31)) &&& 7) 269 ∧ True)) ∧ (¬ (f_Mo_kindOf G (G 17 ((G 20 264).toNatClampNeg))) = 8 → (vp_in (((G 17 ((G 20 264).toNatClampNeg)) >>> (24 &&& 31)) &&& 7) 269 ∧ True)))))) ∧ (¬ (f_Mo_kindOf G (G 17 ((G 20 264).toNatClampNeg))) = 5 → (((f_Mo_kindOf G (G 17 ((G 20 264).toNatClampNeg))) = 8 → (vp_in (G 20 265) 200 ∧ (((f_Mo_kindOf G (G 17 ((G 20 264).toNatClampNeg))) = 8 → (vp_in (((G 17 ((G 20 264).toNatClampNeg)) >>> (24 &&& 31)) &&& 7) 269 ∧ True)) ∧ (¬ (f_Mo_kindOf G (G 17 ((G 20 264).toNatClampNeg))) = 8 → (vp_in (((G 17 ((G 20 264).toNatClampNeg)) >>> (24 &&& 31)) &&& 7) 269 ∧ True))))) ∧ (¬ (f_Mo_kindOf G (G 17 ((G 20 264).toNatClampNeg))) = 8 → (vp_in (((G 17 ((G 20 264).toNatClampNeg)) >>> (20 &&& 31)) &&& 7) 269 ∧ (vp_in (((G 17 ((G 20 264).toNatClampNeg)) >>> (16 &&& 31)) &&& 7) 269 ∧ (((f_Mo_kindOf G (G 17 ((G 20 264).toNatClampNeg))) = 8 → (vp_in (((G 17 ((G 20 264).toNatClampNeg)) >>> (24 &&& 31)) &&& 7) 269 ∧ True)) ∧ (¬ (f_Mo_kindOf G (G 17 ((G 20 264).toNatClampNeg))) = 8 → (vp_in (((G 17 ((G 20 264).toNatClampNeg)) >>> (24 &&& 31)) &&& 7) 269 ∧ True)))))))))))))))) ∧ (¬ (f_Mo_kindOf G (G 17 ((G 20 264).toNatClampNeg))) ≤ 12 → True)))))))
set_option maxHeartbeats 4000000 in
set_option maxRecDepth 100000 in
theorem c_Mo_advance_20 (l : Launch) (G : gT) (p2 : Int32) (O : Int64) (hok : ok_Mo_advance_20 G p2) : gMet l y_Mo_advance w_Mo_advance rm_Mo_advance_20 (fun ad => [.ref (ad 16), .ref (ad 20), .int p2]) G O (.inl (some (.int (f_Mo_advance_20 G p2).1))) ((f_Mo_advance_20 G p2).2) O := by
  refine g_body (by decide) (gCode_of _ _ _ _) (fun ad => by simp [lg_sl, Value.category]) ?_
  intro p e s0 s m args below meth c D cI cL ad hC hr hlk htb hB ls hl
  have hC : CallFix p m c b_Mo_advance 11 s args gtb R_Mo := hC
  have hl : lv_has ls 11 [(0, .ref (ad 16)), (1, .ref (ad 20)), (2, .int p2)] := hl
  have hx := hC.1
  have hb := hC.2.1
  have hf : f_Mo_advance_20 G p2 = (if (f_Mo_kindOf G (G 17 ((G 20 264).toNatClampNeg))) = 8 then (if (G 20 265) < p2 then (if (f_Mo_kindOf G (G 17 ((G 20 264).toNatClampNeg))) = 0 then (if (f_Mo_kindOf G (G 17 ((G 20 264).toNatClampNeg))) = 0 then (1, (g_up (g_up G 16 14 (-1)) 20 268 1)) else (1, (g_up (g_up G 16 14 (-1)) 20 268 2))) else (if (f_Mo_kindOf G (G 17 ((G 20 264).toNatClampNeg))) ≤ 12 then (if (f_Mo_kindOf G (G 17 ((G 20 264).toNatClampNeg))) = 7 then (if (G 20 ((((G 17 ((G 20 264).toNatClampNeg)) >>> (24 &&& 31)) &&& 7).toNatClampNeg)) = 0 then (1, (g_up (g_up G 16 14 (-1)) 20 264 (((G 20 264) + 1) &&& 63))) else (1, (g_up (g_up G 16 14 (-1)) 20 264 (((G 20 264) + (((G 17 ((G 20 264).toNatClampNeg)) <<< (16 &&& 31)) >>> (16 &&& 31))) &&& 63)))) else (if (f_Mo_kindOf G (G 17 ((G 20 264).toNatClampNeg))) = 9 then (1, (g_up (g_up (g_up (g_up G 16 14 (-1)) 20 266 ((G 20 266) + 1)) 20 267 ((31 * (G 20 267)) + ((g_up (g_up G 16 14 (-1)) 20 266 ((G 20 266) + 1)) 20 ((((G 17 ((G 20 264).toNatClampNeg)) >>> (24 &&& 31)) &&& 7).toNatClampNeg)))) 20 264 (((G 20 264) + 1) &&& 63))) else (if (f_Mo_kindOf G (G 17 ((G 20 264).toNatClampNeg))) = 6 then (1, (g_up (g_up (g_up (g_up G 16 14 (-1)) 16 14 (8 + (((G 20 ((((G 17 ((G 20 264).toNatClampNeg)) >>> (20 &&& 31)) &&& 7).toNatClampNeg)) + (((G 17 ((G 20 264).toNatClampNeg)) <<< (16 &&& 31)) >>> (16 &&& 31))) &&& 255))) 20 ((8 + (((G 20 ((((G 17 ((G 20 264).toNatClampNeg)) >>> (20 &&& 31)) &&& 7).toNatClampNeg)) + (((G 17 ((G 20 264).toNatClampNeg)) <<< (16 &&& 31)) >>> (16 &&& 31))) &&& 255)).toNatClampNeg) (G 20 ((((G 17 ((G 20 264).toNatClampNeg)) >>> (24 &&& 31)) &&& 7).toNatClampNeg))) 20 264 (((G 20 264) + 1) &&& 63))) else (if (f_Mo_kindOf G (G 17 ((G 20 264).toNatClampNeg))) = 5 then (if (f_Mo_kindOf G (G 17 ((G 20 264).toNatClampNeg))) = 8 then (1, (g_up (g_up (g_up (g_up (g_up G 16 14 (-1)) 20 265 ((G 20 265) + 1)) 20 ((((G 17 ((G 20 264).toNatClampNeg)) >>> (24 &&& 31)) &&& 7).toNatClampNeg) (G 20 ((8 + (((G 20 ((((G 17 ((G 20 264).toNatClampNeg)) >>> (20 &&& 31)) &&& 7).toNatClampNeg)) + (((G 17 ((G 20 264).toNatClampNeg)) <<< (16 &&& 31)) >>> (16 &&& 31))) &&& 255)).toNatClampNeg))) 16 14 (((G 17 ((G 20 264).toNatClampNeg)) >>> (24 &&& 31)) &&& 7)) 20 264 (((G 20 264) + 1) &&& 63))) else (1, (g_up (g_up (g_up (g_up (g_up G 16 14 (-1)) 20 265 ((G 20 265) + 0)) 20 ((((G 17 ((G 20 264).toNatClampNeg)) >>> (24 &&& 31)) &&& 7).toNatClampNeg) (G 20 ((8 + (((G 20 ((((G 17 ((G 20 264).toNatClampNeg)) >>> (20 &&& 31)) &&& 7).toNatClampNeg)) + (((G 17 ((G 20 264).toNatClampNeg)) <<< (16 &&& 31)) >>> (16 &&& 31))) &&& 255)).toNatClampNeg))) 16 14 (((G 17 ((G 20 264).toNatClampNeg)) >>> (24 &&& 31)) &&& 7)) 20 264 (((G 20 264) + 1) &&& 63)))) else (if (f_Mo_kindOf G (G 17 ((G 20 264).toNatClampNeg))) = 8 then (if (f_Mo_kindOf G (G 17 ((G 20 264).toNatClampNeg))) = 8 then (1, (g_up (g_up (g_up (g_up (g_up G 16 14 (-1)) 20 265 ((G 20 265) + 1)) 20 ((((G 17 ((G 20 264).toNatClampNeg)) >>> (24 &&& 31)) &&& 7).toNatClampNeg) (G 18 ((G 20 265).toNatClampNeg))) 16 14 (((G 17 ((G 20 264).toNatClampNeg)) >>> (24 &&& 31)) &&& 7)) 20 264 (((G 20 264) + 1) &&& 63))) else (1, (g_up (g_up (g_up (g_up (g_up G 16 14 (-1)) 20 265 ((G 20 265) + 0)) 20 ((((G 17 ((G 20 264).toNatClampNeg)) >>> (24 &&& 31)) &&& 7).toNatClampNeg) (G 18 ((G 20 265).toNatClampNeg))) 16 14 (((G 17 ((G 20 264).toNatClampNeg)) >>> (24 &&& 31)) &&& 7)) 20 264 (((G 20 264) + 1) &&& 63)))) else (if (f_Mo_kindOf G (G 17 ((G 20 264).toNatClampNeg))) = 8 then (1, (g_up (g_up (g_up (g_up (g_up G 16 14 (-1)) 20 265 ((G 20 265) + 1)) 20 ((((G 17 ((G 20 264).toNatClampNeg)) >>> (24 &&& 31)) &&& 7).toNatClampNeg) (f_Mo_result (g_up G 16 14 (-1)) (f_Mo_kindOf G (G 17 ((G 20 264).toNatClampNeg))) (G 20 ((((G 17 ((G 20 264).toNatClampNeg)) >>> (20 &&& 31)) &&& 7).toNatClampNeg)) (G 20 ((((G 17 ((G 20 264).toNatClampNeg)) >>> (16 &&& 31)) &&& 7).toNatClampNeg)) (((G 17 ((G 20 264).toNatClampNeg)) <<< (16 &&& 31)) >>> (16 &&& 31)))) 16 14 (((G 17 ((G 20 264).toNatClampNeg)) >>> (24 &&& 31)) &&& 7)) 20 264 (((G 20 264) + 1) &&& 63))) else (1, (g_up (g_up (g_up (g_up (g_up G 16 14 (-1)) 20 265 ((G 20 265) + 0)) 20 ((((G 17 ((G 20 264).toNatClampNeg)) >>> (24 &&& 31)) &&& 7).toNatClampNeg) (f_Mo_result (g_up G 16 14 (-1)) (f_Mo_kindOf G (G 17 ((G 20 264).toNatClampNeg))) (G 20 ((((G 17 ((G 20 264).toNatClampNeg)) >>> (20 &&& 31)) &&& 7).toNatClampNeg)) (G 20 ((((G 17 ((G 20 264).toNatClampNeg)) >>> (16 &&& 31)) &&& 7).toNatClampNeg)) (((G 17 ((G 20 264).toNatClampNeg)) <<< (16 &&& 31)) >>> (16 &&& 31)))) 16 14 (((G 17 ((G 20 264).toNatClampNeg)) >>> (24 &&& 31)) &&& 7)) 20 264 (((G 20 264) + 1) &&& 63))))))))) else (if (f_Mo_kindOf G (G 17 ((G 20 264).toNatClampNeg))) = 0 then (1, (g_up (g_up G 16 14 (-1)) 20 268 1)) else (1, (g_up (g_up G 16 14 (-1)) 20 268 2))))) else (0, (g_up G 16 14 (-1)))) else (if (f_Mo_kindOf G (G 17 ((G 20 264).toNatClampNeg))) = 0 then (if (f_Mo_kindOf G (G 17 ((G 20 264).toNatClampNeg))) = 0 then (1, (g_up (g_up G 16 14 (-1)) 20 268 1)) else (1, (g_up (g_up G 16 14 (-1)) 20 268 2))) else (if (f_Mo_kindOf G (G 17 ((G 20 264).toNatClampNeg))) ≤ 12 then (if (f_Mo_kindOf G (G 17 ((G 20 264).toNatClampNeg))) = 7 then (if (G 20 ((((G 17 ((G 20 264).toNatClampNeg)) >>> (24 &&& 31)) &&& 7).toNatClampNeg)) = 0 then (1, (g_up (g_up G 16 14 (-1)) 20 264 (((G 20 264) + 1) &&& 63))) else (1, (g_up (g_up G 16 14 (-1)) 20 264 (((G 20 264) + (((G 17 ((G 20 264).toNatClampNeg)) <<< (16 &&& 31)) >>> (16 &&& 31))) &&& 63)))) else (if (f_Mo_kindOf G (G 17 ((G 20 264).toNatClampNeg))) = 9 then (1, (g_up (g_up (g_up (g_up G 16 14 (-1)) 20 266 ((G 20 266) + 1)) 20 267 ((31 * (G 20 267)) + ((g_up (g_up G 16 14 (-1)) 20 266 ((G 20 266) + 1)) 20 ((((G 17 ((G 20 264).toNatClampNeg)) >>> (24 &&& 31)) &&& 7).toNatClampNeg)))) 20 264 (((G 20 264) + 1) &&& 63))) else (if (f_Mo_kindOf G (G 17 ((G 20 264).toNatClampNeg))) = 6 then (1, (g_up (g_up (g_up (g_up G 16 14 (-1)) 16 14 (8 + (((G 20 ((((G 17 ((G 20 264).toNatClampNeg)) >>> (20 &&& 31)) &&& 7).toNatClampNeg)) + (((G 17 ((G 20 264).toNatClampNeg)) <<< (16 &&& 31)) >>> (16 &&& 31))) &&& 255))) 20 ((8 + (((G 20 ((((G 17 ((G 20 264).toNatClampNeg)) >>> (20 &&& 31)) &&& 7).toNatClampNeg)) + (((G 17 ((G 20 264).toNatClampNeg)) <<< (16 &&& 31)) >>> (16 &&& 31))) &&& 255)).toNatClampNeg) (G 20 ((((G 17 ((G 20 264).toNatClampNeg)) >>> (24 &&& 31)) &&& 7).toNatClampNeg))) 20 264 (((G 20 264) + 1) &&& 63))) else (if (f_Mo_kindOf G (G 17 ((G 20 264).toNatClampNeg))) = 5 then (if (f_Mo_kindOf G (G 17 ((G 20 264).toNatClampNeg))) = 8 then (1, (g_up (g_up (g_up (g_up (g_up G 16 14 (-1)) 20 265 ((G 20 265) + 1)) 20 ((((G 17 ((G 20 264).toNatClampNeg)) >>> (24 &&& 31)) &&& 7).toNatClampNeg) (G 20 ((8 + (((G 20 ((((G 17 ((G 20 264).toNatClampNeg)) >>> (20 &&& 31)) &&& 7).toNatClampNeg)) + (((G 17 ((G 20 264).toNatClampNeg)) <<< (16 &&& 31)) >>> (16 &&& 31))) &&& 255)).toNatClampNeg))) 16 14 (((G 17 ((G 20 264).toNatClampNeg)) >>> (24 &&& 31)) &&& 7)) 20 264 (((G 20 264) + 1) &&& 63))) else (1, (g_up (g_up (g_up (g_up (g_up G 16 14 (-1)) 20 265 ((G 20 265) + 0)) 20 ((((G 17 ((G 20 264).toNatClampNeg)) >>> (24 &&& 31)) &&& 7).toNatClampNeg) (G 20 ((8 + (((G 20 ((((G 17 ((G 20 264).toNatClampNeg)) >>> (20 &&& 31)) &&& 7).toNatClampNeg)) + (((G 17 ((G 20 264).toNatClampNeg)) <<< (16 &&& 31)) >>> (16 &&& 31))) &&& 255)).toNatClampNeg))) 16 14 (((G 17 ((G 20 264).toNatClampNeg)) >>> (24 &&& 31)) &&& 7)) 20 264 (((G 20 264) + 1) &&& 63)))) else (if (f_Mo_kindOf G (G 17 ((G 20 264).toNatClampNeg))) = 8 then (if (f_Mo_kindOf G (G 17 ((G 20 264).toNatClampNeg))) = 8 then (1, (g_up (g_up (g_up (g_up (g_up G 16 14 (-1)) 20 265 ((G 20 265) + 1)) 20 ((((G 17 ((G 20 264).toNatClampNeg)) >>> (24 &&& 31)) &&& 7).toNatClampNeg) (G 18 ((G 20 265).toNatClampNeg))) 16 14 (((G 17 ((G 20 264).toNatClampNeg)) >>> (24 &&& 31)) &&& 7)) 20 264 (((G 20 264) + 1) &&& 63))) else (1, (g_up (g_up (g_up (g_up (g_up G 16 14 (-1)) 20 265 ((G 20 265) + 0)) 20 ((((G 17 ((G 20 264).toNatClampNeg)) >>> (24 &&& 31)) &&& 7).toNatClampNeg) (G 18 ((G 20 265).toNatClampNeg))) 16 14 (((G 17 ((G 20 264).toNatClampNeg)) >>> (24 &&& 31)) &&& 7)) 20 264 (((G 20 264) + 1) &&& 63)))) else (if (f_Mo_kindOf G (G 17 ((G 20 264).toNatClampNeg))) = 8 then (1, (g_up (g_up (g_up (g_up (g_up G 16 14 (-1)) 20 265 ((G 20 265) + 1)) 20 ((((G 17 ((G 20 264).toNatClampNeg)) >>> (24 &&& 31)) &&& 7).toNatClampNeg) (f_Mo_result (g_up G 16 14 (-1)) (f_Mo_kindOf G (G 17 ((G 20 264).toNatClampNeg))) (G 20 ((((G 17 ((G 20 264).toNatClampNeg)) >>> (20 &&& 31)) &&& 7).toNatClampNeg)) (G 20 ((((G 17 ((G 20 264).toNatClampNeg)) >>> (16 &&& 31)) &&& 7).toNatClampNeg)) (((G 17 ((G 20 264).toNatClampNeg)) <<< (16 &&& 31)) >>> (16 &&& 31)))) 16 14 (((G 17 ((G 20 264).toNatClampNeg)) >>> (24 &&& 31)) &&& 7)) 20 264 (((G 20 264) + 1) &&& 63))) else (1, (g_up (g_up (g_up (g_up (g_up G 16 14 (-1)) 20 265 ((G 20 265) + 0)) 20 ((((G 17 ((G 20 264).toNatClampNeg)) >>> (24 &&& 31)) &&& 7).toNatClampNeg) (f_Mo_result (g_up G 16 14 (-1)) (f_Mo_kindOf G (G 17 ((G 20 264).toNatClampNeg))) (G 20 ((((G 17 ((G 20 264).toNatClampNeg)) >>> (20 &&& 31)) &&& 7).toNatClampNeg)) (G 20 ((((G 17 ((G 20 264).toNatClampNeg)) >>> (16 &&& 31)) &&& 7).toNatClampNeg)) (((G 17 ((G 20 264).toNatClampNeg)) <<< (16 &&& 31)) >>> (16 &&& 31)))) 16 14 (((G 17 ((G 20 264).toNatClampNeg)) >>> (24 &&& 31)) &&& 7)) 20 264 (((G 20 264) + 1) &&& 63))))))))) else (if (f_Mo_kindOf G (G 17 ((G 20 264).toNatClampNeg))) = 0 then (1, (g_up (g_up G 16 14 (-1)) 20 268 1)) else (1, (g_up (g_up G 16 14 (-1)) 20 268 2)))))) := rfl
  have hok : (vp_in (G 20 264) 64 ∧ (((f_Mo_kindOf G (G 17 ((G 20 264).toNatClampNeg))) = 8 → (((G 20 265) < p2 → (((f_Mo_kindOf G (G 17 ((G 20 264).toNatClampNeg))) = 0 → True) ∧ (¬ (f_Mo_kindOf G (G 17 ((G 20 264).toNatClampNeg))) = 0 → (((f_Mo_kindOf G (G 17 ((G 20 264).toNatClampNeg))) ≤ 12 → (((f_Mo_kindOf G (G 17 ((G 20 264).toNatClampNeg))) = 7 → (vp_in (((G 17 ((G 20 264).toNatClampNeg)) >>> (24 &&& 31)) &&& 7) 269 ∧ True)) ∧ (¬ (f_Mo_kindOf G (G 17 ((G 20 264).toNatClampNeg))) = 7 → (((f_Mo_kindOf G (G 17 ((G 20 264).toNatClampNeg))) = 9 → (vp_in (((G 17 ((G 20 264).toNatClampNeg)) >>> (24 &&& 31)) &&& 7) 269 ∧ True)) ∧ (¬ (f_Mo_kindOf G (G 17 ((G 20 264).toNatClampNeg))) = 9 → (((f_Mo_kindOf G (G 17 ((G 20 264).toNatClampNeg))) = 6 → (vp_in (((G 17 ((G 20 264).toNatClampNeg)) >>> (20 &&& 31)) &&& 7) 269 ∧ (vp_in (((G 17 ((G 20 264).toNatClampNeg)) >>> (24 &&& 31)) &&& 7) 269 ∧ (vp_in (8 + (((G 20 ((((G 17 ((G 20 264).toNatClampNeg)) >>> (20 &&& 31)) &&& 7).toNatClampNeg)) + (((G 17 ((G 20 264).toNatClampNeg)) <<< (16 &&& 31)) >>> (16 &&& 31))) &&& 255)) 269 ∧ True)))) ∧ (¬ (f_Mo_kindOf G (G 17 ((G 20 264).toNatClampNeg))) = 6 → (((f_Mo_kindOf G (G 17 ((G 20 264).toNatClampNeg))) = 5 → (vp_in (((G 17 ((G 20 264).toNatClampNeg)) >>> (20 &&& 31)) &&& 7) 269 ∧ (vp_in (8 + (((G 20 ((((G 17 ((G 20 264).toNatClampNeg)) >>> (20 &&& 31)) &&& 7).toNatClampNeg)) + (((G 17 ((G 20 264).toNatClampNeg)) <<< (16 &&& 31)) >>> (16 &&& 31))) &&& 255)) 269 ∧ (((f_Mo_kindOf G (G 17 ((G 20 264).toNatClampNeg))) = 8 → (vp_in (((G 17 ((G 20 264).toNatClampNeg)) >>> (24 &&& 31)) &&& 7) 269 ∧ True)) ∧ (¬ (f_Mo_kindOf G (G 17 ((G 20 264).toNatClampNeg))) = 8 → (vp_in (((G 17 ((G 20 264).toNatClampNeg)) >>> (24 &&& 31)) &&& 7) 269 ∧ True)))))) ∧ (¬ (f_Mo_kindOf G (G 17 ((G 20 264).toNatClampNeg))) = 5 → (((f_Mo_kindOf G (G 17 ((G 20 264).toNatClampNeg))) = 8 → (vp_in (G 20 265) 200 ∧ (((f_Mo_kindOf G (G 17 ((G 20 264).toNatClampNeg))) = 8 → (vp_in (((G 17 ((G 20 264).toNatClampNeg)) >>> (24 &&& 31)) &&& 7) 269 ∧ True)) ∧ (¬ (f_Mo_kindOf G (G 17 ((G 20 264).toNatClampNeg))) = 8 → (vp_in (((G 17 ((G 20 264).toNatClampNeg)) >>> (24 &&& 31)) &&& 7) 269 ∧ True))))) ∧ (¬ (f_Mo_kindOf G (G 17 ((G 20 264).toNatClampNeg))) = 8 → (vp_in (((G 17 ((G 20 264).toNatClampNeg)) >>> (20 &&& 31)) &&& 7) 269 ∧ (vp_in (((G 17 ((G 20 264).toNatClampNeg)) >>> (16 &&& 31)) &&& 7) 269 ∧ (((f_Mo_kindOf G (G 17 ((G 20 264).toNatClampNeg))) = 8 → (vp_in (((G 17 ((G 20 264).toNatClampNeg)) >>> (24 &&& 31)) &&& 7) 269 ∧ True)) ∧ (¬ (f_Mo_kindOf G (G 17 ((G 20 264).toNatClampNeg))) = 8 → (vp_in (((G 17 ((G 20 264).toNatClampNeg)) >>> (24 &&& 31)) &&& 7) 269 ∧ True)))))))))))))))) ∧ (¬ (f_Mo_kindOf G (G 17 ((G 20 264).toNatClampNeg))) ≤ 12 → True))))) ∧ (¬ (G 20 265) < p2 → True))) ∧ (¬ (f_Mo_kindOf G (G 17 ((G 20 264).toNatClampNeg))) = 8 → (((f_Mo_kindOf G (G 17 ((G 20 264).toNatClampNeg))) = 0 → True) ∧ (¬ (f_Mo_kindOf G (G 17 ((G 20 264).toNatClampNeg))) = 0 → (((f_Mo_kindOf G (G 17 ((G 20 264).toNatClampNeg))) ≤ 12 → (((f_Mo_kindOf G (G 17 ((G 20 264).toNatClampNeg))) = 7 → (vp_in (((G 17 ((G 20 264).toNatClampNeg)) >>> (24 &&& 31)) &&& 7) 269 ∧ True)) ∧ (¬ (f_Mo_kindOf G (G 17 ((G 20 264).toNatClampNeg))) = 7 → (((f_Mo_kindOf G (G 17 ((G 20 264).toNatClampNeg))) = 9 → (vp_in (((G 17 ((G 20 264).toNatClampNeg)) >>> (24 &&& 31)) &&& 7) 269 ∧ True)) ∧ (¬ (f_Mo_kindOf G (G 17 ((G 20 264).toNatClampNeg))) = 9 → (((f_Mo_kindOf G (G 17 ((G 20 264).toNatClampNeg))) = 6 → (vp_in (((G 17 ((G 20 264).toNatClampNeg)) >>> (20 &&& 31)) &&& 7) 269 ∧ (vp_in (((G 17 ((G 20 264).toNatClampNeg)) >>> (24 &&& 31)) &&& 7) 269 ∧ (vp_in (8 + (((G 20 ((((G 17 ((G 20 264).toNatClampNeg)) >>> (20 &&& 31)) &&& 7).toNatClampNeg)) + (((G 17 ((G 20 264).toNatClampNeg)) <<< (16 &&& 31)) >>> (16 &&& 31))) &&& 255)) 269 ∧ True)))) ∧ (¬ (f_Mo_kindOf G (G 17 ((G 20 264).toNatClampNeg))) = 6 → (((f_Mo_kindOf G (G 17 ((G 20 264).toNatClampNeg))) = 5 → (vp_in (((G 17 ((G 20 264).toNatClampNeg)) >>> (20 &&& 31)) &&& 7) 269 ∧ (vp_in (8 + (((G 20 ((((G 17 ((G 20 264).toNatClampNeg)) >>> (20 &&& 31)) &&& 7).toNatClampNeg)) + (((G 17 ((G 20 264).toNatClampNeg)) <<< (16 &&& 31)) >>> (16 &&& 31))) &&& 255)) 269 ∧ (((f_Mo_kindOf G (G 17 ((G 20 264).toNatClampNeg))) = 8 → (vp_in (((G 17 ((G 20 264).toNatClampNeg)) >>> (24 &&& 31)) &&& 7) 269 ∧ True)) ∧ (¬ (f_Mo_kindOf G (G 17 ((G 20 264).toNatClampNeg))) = 8 → (vp_in (((G 17 ((G 20 264).toNatClampNeg)) >>> (24 &&& 31)) &&& 7) 269 ∧ True)))))) ∧ (¬ (f_Mo_kindOf G (G 17 ((G 20 264).toNatClampNeg))) = 5 → (((f_Mo_kindOf G (G 17 ((G 20 264).toNatClampNeg))) = 8 → (vp_in (G 20 265) 200 ∧ (((f_Mo_kindOf G (G 17 ((G 20 264).toNatClampNeg))) = 8 → (vp_in (((G 17 ((G 20 264).toNatClampNeg)) >>> (24 &&& 31)) &&& 7) 269 ∧ True)) ∧ (¬ (f_Mo_kindOf G (G 17 ((G 20 264).toNatClampNeg))) = 8 → (vp_in (((G 17 ((G 20 264).toNatClampNeg)) >>> (24 &&& 31)) &&& 7) 269 ∧ True))))) ∧ (¬ (f_Mo_kindOf G (G 17 ((G 20 264).toNatClampNeg))) = 8 → (vp_in (((G 17 ((G 20 264).toNatClampNeg)) >>> (20 &&& 31)) &&& 7) 269 ∧ (vp_in (((G 17 ((G 20 264).toNatClampNeg)) >>> (16 &&& 31)) &&& 7) 269 ∧ (((f_Mo_kindOf G (G 17 ((G 20 264).toNatClampNeg))) = 8 → (vp_in (((G 17 ((G 20 264).toNatClampNeg)) >>> (24 &&& 31)) &&& 7) 269 ∧ True)) ∧ (¬ (f_Mo_kindOf G (G 17 ((G 20 264).toNatClampNeg))) = 8 → (vp_in (((G 17 ((G 20 264).toNatClampNeg)) >>> (24 &&& 31)) &&& 7) 269 ∧ True)))))))))))))))) ∧ (¬ (f_Mo_kindOf G (G 17 ((G 20 264).toNatClampNeg))) ≤ 12 → True))))))) := hok
  refine lv_aload_n hx hb d_Mo_advance_0 rfl (lv_at hl 0 rfl) ?_
  refine gr_16_3 hC hB fl_Mo_7 d_Mo_advance_1 ?_
  refine lv_aload_n hx hb d_Mo_advance_4 rfl (lv_at hl 1 rfl) ?_
  refine lv_sipush (v := 264) hx hb d_Mo_advance_5 (by decide) ?_
  refine ga_20 (x := (G 20 264)) hC hB (by decide) rfl d_Mo_advance_8 ?_
  refine ga_17 (x := (G 17 ((G 20 264).toNatClampNeg))) hC hB hok.1 rfl d_Mo_advance_9 ?_
  have hok := hok.2
  refine lv_istore_n (lv' := [(3, .int (G 17 ((G 20 264).toNatClampNeg))), (0, .ref (ad 16)), (1, .ref (ad 20)), (2, .int p2)]) hx hb d_Mo_advance_10 rfl hl (by decide) rfl (fun ls hl => ?_)
  refine lv_iload_n hx hb d_Mo_advance_11 rfl (lv_at hl 0 rfl) ?_
  refine g_callSi (As := [.int (G 17 ((G 20 264).toNatClampNeg))]) (rest := []) hC hB (c_Mo_kindOf l G (G 17 ((G 20 264).toNatClampNeg)) O) rfl key_Mo_kindOf rfl sta_Mo_kindOf ml_Mo_69 rfl hl.1 ⟨Nat.le_of_ble_eq_true rfl, Nat.le_of_ble_eq_true rfl, Nat.le_of_ble_eq_true rfl, Nat.le_of_ble_eq_true rfl⟩ d_Mo_advance_12 (fun H locs hB => ?_)
  refine lv_istore (lv' := [(4, .int (f_Mo_kindOf G (G 17 ((G 20 264).toNatClampNeg)))), (3, .int (G 17 ((G 20 264).toNatClampNeg))), (0, .ref (ad 16)), (1, .ref (ad 20)), (2, .int p2)]) hx hb d_Mo_advance_15 hl (by decide) rfl (fun ls hl => ?_)
  refine lv_iload_n hx hb d_Mo_advance_17 rfl (lv_at hl 1 rfl) ?_
  refine lv_bipush (v := 24) hx hb d_Mo_advance_18 (by decide) ?_
  refine lv_ishr hx hb d_Mo_advance_20 ?_
  refine lv_bipush (v := 7) hx hb d_Mo_advance_21 (by decide) ?_
  refine lv_iand hx hb d_Mo_advance_23 ?_
  refine lv_istore (lv' := [(5, .int (((G 17 ((G 20 264).toNatClampNeg)) >>> (24 &&& 31)) &&& 7)), (4, .int (f_Mo_kindOf G (G 17 ((G 20 264).toNatClampNeg)))), (3, .int (G 17 ((G 20 264).toNatClampNeg))), (0, .ref (ad 16)), (1, .ref (ad 20)), (2, .int p2)]) hx hb d_Mo_advance_24 hl (by decide) rfl (fun ls hl => ?_)
  refine lv_iload_n hx hb d_Mo_advance_26 rfl (lv_at hl 2 rfl) ?_
  refine lv_bipush (v := 20) hx hb d_Mo_advance_27 (by decide) ?_
  refine lv_ishr hx hb d_Mo_advance_29 ?_
  refine lv_bipush (v := 7) hx hb d_Mo_advance_30 (by decide) ?_
  refine lv_iand hx hb d_Mo_advance_32 ?_
  refine lv_istore (lv' := [(6, .int (((G 17 ((G 20 264).toNatClampNeg)) >>> (20 &&& 31)) &&& 7)), (5, .int (((G 17 ((G 20 264).toNatClampNeg)) >>> (24 &&& 31)) &&& 7)), (4, .int (f_Mo_kindOf G (G 17 ((G 20 264).toNatClampNeg)))), (3, .int (G 17 ((G 20 264).toNatClampNeg))), (0, .ref (ad 16)), (1, .ref (ad 20)), (2, .int p2)]) hx hb d_Mo_advance_33 hl (by decide) rfl (fun ls hl => ?_)
  refine lv_iload_n hx hb d_Mo_advance_35 rfl (lv_at hl 3 rfl) ?_
  refine lv_bipush (v := 16) hx hb d_Mo_advance_36 (by decide) ?_
  refine lv_ishr hx hb d_Mo_advance_38 ?_
  refine lv_bipush (v := 7) hx hb d_Mo_advance_39 (by decide) ?_
  refine lv_iand hx hb d_Mo_advance_41 ?_
  refine lv_istore (lv' := [(7, .int (((G 17 ((G 20 264).toNatClampNeg)) >>> (16 &&& 31)) &&& 7)), (6, .int (((G 17 ((G 20 264).toNatClampNeg)) >>> (20 &&& 31)) &&& 7)), (5, .int (((G 17 ((G 20 264).toNatClampNeg)) >>> (24 &&& 31)) &&& 7)), (4, .int (f_Mo_kindOf G (G 17 ((G 20 264).toNatClampNeg)))), (3, .int (G 17 ((G 20 264).toNatClampNeg))), (0, .ref (ad 16)), (1, .ref (ad 20)), (2, .int p2)]) hx hb d_Mo_advance_42 hl (by decide) rfl (fun ls hl => ?_)
  refine lv_iload_n hx hb d_Mo_advance_44 rfl (lv_at hl 4 rfl) ?_
  refine lv_bipush (v := 16) hx hb d_Mo_advance_45 (by decide) ?_
  refine lv_ishl hx hb d_Mo_advance_47 ?_
  refine lv_bipush (v := 16) hx hb d_Mo_advance_48 (by decide) ?_
  refine lv_ishr hx hb d_Mo_advance_50 ?_
  refine lv_istore (lv' := [(8, .int (((G 17 ((G 20 264).toNatClampNeg)) <<< (16 &&& 31)) >>> (16 &&& 31))), (7, .int (((G 17 ((G 20 264).toNatClampNeg)) >>> (16 &&& 31)) &&& 7)), (6, .int (((G 17 ((G 20 264).toNatClampNeg)) >>> (20 &&& 31)) &&& 7)), (5, .int (((G 17 ((G 20 264).toNatClampNeg)) >>> (24 &&& 31)) &&& 7)), (4, .int (f_Mo_kindOf G (G 17 ((G 20 264).toNatClampNeg)))), (3, .int (G 17 ((G 20 264).toNatClampNeg))), (0, .ref (ad 16)), (1, .ref (ad 20)), (2, .int p2)]) hx hb d_Mo_advance_51 hl (by decide) rfl (fun ls hl => ?_)
  refine lv_aload_n hx hb d_Mo_advance_53 rfl (lv_at hl 6 rfl) ?_
  refine lv_iconst (v := (-1)) hx hb d_Mo_advance_54 (by decide) ?_
  refine gp_16_14 hC hB fl_Mo_72 d_Mo_advance_55 (fun H locs hB => ?_)
  refine lv_iload hx hb d_Mo_advance_58 (lv_at hl 4 rfl) ?_
  refine lv_bipush (v := 8) hx hb d_Mo_advance_60 (by decide) ?_
  refine lv_icmp_ne (tgt := 76) hx hb d_Mo_advance_62 (by decide) (fun c1 => ?_) (fun c1 => ?_)
  · have hf := hf.trans (if_neg c1)
    have hok := hok.2 c1
    refine lv_iload hx hb d_Mo_advance_76 (lv_at hl 4 rfl) ?_
    refine lv_if_eq (tgt := 88) hx hb d_Mo_advance_78 (by decide) (fun c2 => ?_) (fun c2 => ?_)
    · have hf := hf.trans (if_pos c2)
      have hok := hok.1 c2
      refine lv_aload_n hx hb d_Mo_advance_88 rfl (lv_at hl 7 rfl) ?_
      refine lv_sipush (v := 268) hx hb d_Mo_advance_89 (by decide) ?_
      refine lv_iload hx hb d_Mo_advance_92 (lv_at hl 4 rfl) ?_
      refine lv_if_ne (tgt := 101) hx hb d_Mo_advance_94 (by decide) (fun c3 => ?_) (fun c3 => ?_)
      · have hf := hf.trans (if_neg c3)
        refine lv_iconst (v := 2) hx hb d_Mo_advance_101 (by decide) ?_
        refine gs_20 hC hB (by decide) d_Mo_advance_102 (fun H locs hB => ?_)
        refine lv_iconst (v := 1) hx hb d_Mo_advance_103 (by decide) ?_
        exact g_zret hC hB hr hlk (by decide) (by decide) (by decide) (by rw [hf]) (by rw [hf]) d_Mo_advance_104
      · have hf := hf.trans (if_pos c3)
        refine lv_iconst (v := 1) hx hb d_Mo_advance_97 (by decide) ?_
        refine lv_goto (tgt := 102) hx hb d_Mo_advance_98 (by decide) ?_
        refine gs_20 hC hB (by decide) d_Mo_advance_102 (fun H locs hB => ?_)
        refine lv_iconst (v := 1) hx hb d_Mo_advance_103 (by decide) ?_
        exact g_zret hC hB hr hlk (by decide) (by decide) (by decide) (by rw [hf]) (by rw [hf]) d_Mo_advance_104
    · have hf := hf.trans (if_neg c2)
      have hok := hok.2 c2
      refine lv_iload hx hb d_Mo_advance_81 (lv_at hl 4 rfl) ?_
      refine lv_bipush (v := 12) hx hb d_Mo_advance_83 (by decide) ?_
      refine lv_icmp_le (tgt := 105) hx hb d_Mo_advance_85 (by decide) (fun c4 => ?_) (fun c4 => ?_)
      · have hf := hf.trans (if_pos c4)
        have hok := hok.1 c4
        refine lv_aload_n hx hb d_Mo_advance_105 rfl (lv_at hl 7 rfl) ?_
        refine lv_sipush (v := 264) hx hb d_Mo_advance_106 (by decide) ?_
        refine ga_20 (x := (G 20 264)) hC hB (by decide) rfl d_Mo_advance_109 ?_
        refine lv_iconst (v := 1) hx hb d_Mo_advance_110 (by decide) ?_
        refine lv_iadd hx hb d_Mo_advance_111 ?_
        refine lv_bipush (v := 63) hx hb d_Mo_advance_112 (by decide) ?_
        refine lv_iand hx hb d_Mo_advance_114 ?_
        refine lv_istore (lv' := [(9, .int (((G 20 264) + 1) &&& 63)), (8, .int (((G 17 ((G 20 264).toNatClampNeg)) <<< (16 &&& 31)) >>> (16 &&& 31))), (7, .int (((G 17 ((G 20 264).toNatClampNeg)) >>> (16 &&& 31)) &&& 7)), (6, .int (((G 17 ((G 20 264).toNatClampNeg)) >>> (20 &&& 31)) &&& 7)), (5, .int (((G 17 ((G 20 264).toNatClampNeg)) >>> (24 &&& 31)) &&& 7)), (4, .int (f_Mo_kindOf G (G 17 ((G 20 264).toNatClampNeg)))), (3, .int (G 17 ((G 20 264).toNatClampNeg))), (0, .ref (ad 16)), (1, .ref (ad 20)), (2, .int p2)]) hx hb d_Mo_advance_115 hl (by decide) rfl (fun ls hl => ?_)
        refine lv_iload hx hb d_Mo_advance_117 (lv_at hl 5 rfl) ?_
        refine lv_bipush (v := 7) hx hb d_Mo_advance_119 (by decide) ?_
        refine lv_icmp_ne (tgt := 152) hx hb d_Mo_advance_121 (by decide) (fun c5 => ?_) (fun c5 => ?_)
        · have hf := hf.trans (if_neg c5)
          have hok := hok.2 c5
          refine lv_iload hx hb d_Mo_advance_152 (lv_at hl 5 rfl) ?_
          refine lv_bipush (v := 9) hx hb d_Mo_advance_154 (by decide) ?_
          refine lv_icmp_ne (tgt := 189) hx hb d_Mo_advance_156 (by decide) (fun c6 => ?_) (fun c6 => ?_)
          · have hf := hf.trans (if_neg c6)
            have hok := hok.2 c6
            refine lv_iload hx hb d_Mo_advance_189 (lv_at hl 5 rfl) ?_
            refine lv_bipush (v := 6) hx hb d_Mo_advance_191 (by decide) ?_
            refine lv_icmp_ne (tgt := 227) hx hb d_Mo_advance_193 (by decide) (fun c7 => ?_) (fun c7 => ?_)
            · have hf := hf.trans (if_neg c7)
              have hok := hok.2 c7
              refine lv_iload hx hb d_Mo_advance_227 (lv_at hl 5 rfl) ?_
              refine lv_iconst (v := 5) hx hb d_Mo_advance_229 (by decide) ?_
              refine lv_icmp_ne (tgt := 252) hx hb d_Mo_advance_230 (by decide) (fun c8 => ?_) (fun c8 => ?_)
              · have hf := hf.trans (if_neg c8)
                have hok := hok.2 c8
                refine lv_iload hx hb d_Mo_advance_252 (lv_at hl 5 rfl) ?_
                refine lv_bipush (v := 8) hx hb d_Mo_advance_254 (by decide) ?_
                refine lv_icmp_ne (tgt := 272) hx hb d_Mo_advance_256 (by decide) (fun c9 => ?_) (fun c9 => ?_)
                · have hf := hf.trans (if_neg c9)
                  have hok := hok.2 c9
                  refine lv_iload hx hb d_Mo_advance_272 (lv_at hl 5 rfl) ?_
                  refine lv_aload_n hx hb d_Mo_advance_274 rfl (lv_at hl 8 rfl) ?_
                  refine lv_iload hx hb d_Mo_advance_275 (lv_at hl 3 rfl) ?_
                  refine ga_20 (x := (G 20 ((((G 17 ((G 20 264).toNatClampNeg)) >>> (20 &&& 31)) &&& 7).toNatClampNeg))) hC hB hok.1 rfl d_Mo_advance_277 ?_
                  have hok := hok.2
                  refine lv_aload_n hx hb d_Mo_advance_278 rfl (lv_at hl 8 rfl) ?_
                  refine lv_iload hx hb d_Mo_advance_279 (lv_at hl 2 rfl) ?_
                  refine ga_20 (x := (G 20 ((((G 17 ((G 20 264).toNatClampNeg)) >>> (16 &&& 31)) &&& 7).toNatClampNeg))) hC hB hok.1 rfl d_Mo_advance_281 ?_
                  have hok := hok.2
                  refine lv_iload hx hb d_Mo_advance_282 (lv_at hl 1 rfl) ?_
                  refine g_callSi (As := [.int (f_Mo_kindOf G (G 17 ((G 20 264).toNatClampNeg))), .int (G 20 ((((G 17 ((G 20 264).toNatClampNeg)) >>> (20 &&& 31)) &&& 7).toNatClampNeg)), .int (G 20 ((((G 17 ((G 20 264).toNatClampNeg)) >>> (16 &&& 31)) &&& 7).toNatClampNeg)), .int (((G 17 ((G 20 264).toNatClampNeg)) <<< (16 &&& 31)) >>> (16 &&& 31))]) (rest := []) hC hB (c_Mo_result l (g_up G 16 14 (-1)) (f_Mo_kindOf G (G 17 ((G 20 264).toNatClampNeg))) (G 20 ((((G 17 ((G 20 264).toNatClampNeg)) >>> (20 &&& 31)) &&& 7).toNatClampNeg)) (G 20 ((((G 17 ((G 20 264).toNatClampNeg)) >>> (16 &&& 31)) &&& 7).toNatClampNeg)) (((G 17 ((G 20 264).toNatClampNeg)) <<< (16 &&& 31)) >>> (16 &&& 31)) O) rfl key_Mo_result rfl sta_Mo_result ml_Mo_75 rfl hl.1 ⟨Nat.le_of_ble_eq_true rfl, Nat.le_of_ble_eq_true rfl, Nat.le_of_ble_eq_true rfl, Nat.le_of_ble_eq_true rfl⟩ d_Mo_advance_284 (fun H locs hB => ?_)
                  refine lv_istore (lv' := [(10, .int (f_Mo_result (g_up G 16 14 (-1)) (f_Mo_kindOf G (G 17 ((G 20 264).toNatClampNeg))) (G 20 ((((G 17 ((G 20 264).toNatClampNeg)) >>> (20 &&& 31)) &&& 7).toNatClampNeg)) (G 20 ((((G 17 ((G 20 264).toNatClampNeg)) >>> (16 &&& 31)) &&& 7).toNatClampNeg)) (((G 17 ((G 20 264).toNatClampNeg)) <<< (16 &&& 31)) >>> (16 &&& 31)))), (9, .int (((G 20 264) + 1) &&& 63)), (8, .int (((G 17 ((G 20 264).toNatClampNeg)) <<< (16 &&& 31)) >>> (16 &&& 31))), (7, .int (((G 17 ((G 20 264).toNatClampNeg)) >>> (16 &&& 31)) &&& 7)), (6, .int (((G 17 ((G 20 264).toNatClampNeg)) >>> (20 &&& 31)) &&& 7)), (5, .int (((G 17 ((G 20 264).toNatClampNeg)) >>> (24 &&& 31)) &&& 7)), (4, .int (f_Mo_kindOf G (G 17 ((G 20 264).toNatClampNeg)))), (3, .int (G 17 ((G 20 264).toNatClampNeg))), (0, .ref (ad 16)), (1, .ref (ad 20)), (2, .int p2)]) hx hb d_Mo_advance_287 hl (by decide) rfl (fun ls hl => ?_)
                  refine lv_aload_n hx hb d_Mo_advance_289 rfl (lv_at hl 9 rfl) ?_
                  refine lv_sipush (v := 265) hx hb d_Mo_advance_290 (by decide) ?_
                  refine lv_dup2_11 hx hb d_Mo_advance_293 rfl rfl ?_
                  refine ga_20 (x := (G 20 265)) hC hB (by decide) rfl d_Mo_advance_294 ?_
                  refine lv_iload hx hb d_Mo_advance_295 (lv_at hl 6 rfl) ?_
                  refine lv_bipush (v := 8) hx hb d_Mo_advance_297 (by decide) ?_
                  refine lv_icmp_ne (tgt := 306) hx hb d_Mo_advance_299 (by decide) (fun c10 => ?_) (fun c10 => ?_)
                  · have hf := hf.trans (if_neg c10)
                    have hok := hok.2 c10
                    refine lv_iconst (v := 0) hx hb d_Mo_advance_306 (by decide) ?_
                    refine lv_iadd hx hb d_Mo_advance_307 ?_
                    refine gs_20 hC hB (by decide) d_Mo_advance_308 (fun H locs hB => ?_)
                    refine lv_aload_n hx hb d_Mo_advance_309 rfl (lv_at hl 9 rfl) ?_
                    refine lv_iload hx hb d_Mo_advance_310 (lv_at hl 5 rfl) ?_
                    refine lv_iload hx hb d_Mo_advance_312 (lv_at hl 0 rfl) ?_
                    refine gs_20 hC hB hok.1 d_Mo_advance_314 (fun H locs hB => ?_)
                    have hok := hok.2
                    refine lv_aload_n hx hb d_Mo_advance_315 rfl (lv_at hl 8 rfl) ?_
                    refine lv_iload hx hb d_Mo_advance_316 (lv_at hl 5 rfl) ?_
                    refine gp_16_14 hC hB fl_Mo_72 d_Mo_advance_318 (fun H locs hB => ?_)
                    refine lv_aload_n hx hb d_Mo_advance_321 rfl (lv_at hl 9 rfl) ?_
                    refine lv_sipush (v := 264) hx hb d_Mo_advance_322 (by decide) ?_
                    refine lv_iload hx hb d_Mo_advance_325 (lv_at hl 1 rfl) ?_
                    refine gs_20 hC hB (by decide) d_Mo_advance_327 (fun H locs hB => ?_)
                    refine lv_iconst (v := 1) hx hb d_Mo_advance_328 (by decide) ?_
                    exact g_zret hC hB hr hlk (by decide) (by decide) (by decide) (by rw [hf]) (by rw [hf]) d_Mo_advance_329
                  · have hf := hf.trans (if_pos c10)
                    have hok := hok.1 c10
                    refine lv_iconst (v := 1) hx hb d_Mo_advance_302 (by decide) ?_
                    refine lv_goto (tgt := 307) hx hb d_Mo_advance_303 (by decide) ?_
                    refine lv_iadd hx hb d_Mo_advance_307 ?_
                    refine gs_20 hC hB (by decide) d_Mo_advance_308 (fun H locs hB => ?_)
                    refine lv_aload_n hx hb d_Mo_advance_309 rfl (lv_at hl 9 rfl) ?_
                    refine lv_iload hx hb d_Mo_advance_310 (lv_at hl 5 rfl) ?_
                    refine lv_iload hx hb d_Mo_advance_312 (lv_at hl 0 rfl) ?_
                    refine gs_20 hC hB hok.1 d_Mo_advance_314 (fun H locs hB => ?_)
                    have hok := hok.2
                    refine lv_aload_n hx hb d_Mo_advance_315 rfl (lv_at hl 8 rfl) ?_
                    refine lv_iload hx hb d_Mo_advance_316 (lv_at hl 5 rfl) ?_
                    refine gp_16_14 hC hB fl_Mo_72 d_Mo_advance_318 (fun H locs hB => ?_)
                    refine lv_aload_n hx hb d_Mo_advance_321 rfl (lv_at hl 9 rfl) ?_
                    refine lv_sipush (v := 264) hx hb d_Mo_advance_322 (by decide) ?_
                    refine lv_iload hx hb d_Mo_advance_325 (lv_at hl 1 rfl) ?_
                    refine gs_20 hC hB (by decide) d_Mo_advance_327 (fun H locs hB => ?_)
                    refine lv_iconst (v := 1) hx hb d_Mo_advance_328 (by decide) ?_
                    exact g_zret hC hB hr hlk (by decide) (by decide) (by decide) (by rw [hf]) (by rw [hf]) d_Mo_advance_329
                · have hf := hf.trans (if_pos c9)
                  have hok := hok.1 c9
                  refine lv_aload_n hx hb d_Mo_advance_259 rfl (lv_at hl 7 rfl) ?_
                  refine gr_16_5 hC hB fl_Mo_13 d_Mo_advance_260 ?_
                  refine lv_aload_n hx hb d_Mo_advance_263 rfl (lv_at hl 8 rfl) ?_
                  refine lv_sipush (v := 265) hx hb d_Mo_advance_264 (by decide) ?_
                  refine ga_20 (x := (G 20 265)) hC hB (by decide) rfl d_Mo_advance_267 ?_
                  refine ga_18 (x := (G 18 ((G 20 265).toNatClampNeg))) hC hB hok.1 rfl d_Mo_advance_268 ?_
                  have hok := hok.2
                  refine lv_goto (tgt := 287) hx hb d_Mo_advance_269 (by decide) ?_
                  refine lv_istore (lv' := [(10, .int (G 18 ((G 20 265).toNatClampNeg))), (9, .int (((G 20 264) + 1) &&& 63)), (8, .int (((G 17 ((G 20 264).toNatClampNeg)) <<< (16 &&& 31)) >>> (16 &&& 31))), (7, .int (((G 17 ((G 20 264).toNatClampNeg)) >>> (16 &&& 31)) &&& 7)), (6, .int (((G 17 ((G 20 264).toNatClampNeg)) >>> (20 &&& 31)) &&& 7)), (5, .int (((G 17 ((G 20 264).toNatClampNeg)) >>> (24 &&& 31)) &&& 7)), (4, .int (f_Mo_kindOf G (G 17 ((G 20 264).toNatClampNeg)))), (3, .int (G 17 ((G 20 264).toNatClampNeg))), (0, .ref (ad 16)), (1, .ref (ad 20)), (2, .int p2)]) hx hb d_Mo_advance_287 hl (by decide) rfl (fun ls hl => ?_)
                  refine lv_aload_n hx hb d_Mo_advance_289 rfl (lv_at hl 9 rfl) ?_
                  refine lv_sipush (v := 265) hx hb d_Mo_advance_290 (by decide) ?_
                  refine lv_dup2_11 hx hb d_Mo_advance_293 rfl rfl ?_
                  refine ga_20 (x := (G 20 265)) hC hB (by decide) rfl d_Mo_advance_294 ?_
                  refine lv_iload hx hb d_Mo_advance_295 (lv_at hl 6 rfl) ?_
                  refine lv_bipush (v := 8) hx hb d_Mo_advance_297 (by decide) ?_
                  refine lv_icmp_ne (tgt := 306) hx hb d_Mo_advance_299 (by decide) (fun c11 => ?_) (fun c11 => ?_)
                  · have hf := hf.trans (if_neg c11)
                    have hok := hok.2 c11
                    refine lv_iconst (v := 0) hx hb d_Mo_advance_306 (by decide) ?_
                    refine lv_iadd hx hb d_Mo_advance_307 ?_
                    refine gs_20 hC hB (by decide) d_Mo_advance_308 (fun H locs hB => ?_)
                    refine lv_aload_n hx hb d_Mo_advance_309 rfl (lv_at hl 9 rfl) ?_
                    refine lv_iload hx hb d_Mo_advance_310 (lv_at hl 5 rfl) ?_
                    refine lv_iload hx hb d_Mo_advance_312 (lv_at hl 0 rfl) ?_
                    refine gs_20 hC hB hok.1 d_Mo_advance_314 (fun H locs hB => ?_)
                    have hok := hok.2
                    refine lv_aload_n hx hb d_Mo_advance_315 rfl (lv_at hl 8 rfl) ?_
                    refine lv_iload hx hb d_Mo_advance_316 (lv_at hl 5 rfl) ?_
                    refine gp_16_14 hC hB fl_Mo_72 d_Mo_advance_318 (fun H locs hB => ?_)
                    refine lv_aload_n hx hb d_Mo_advance_321 rfl (lv_at hl 9 rfl) ?_
                    refine lv_sipush (v := 264) hx hb d_Mo_advance_322 (by decide) ?_
                    refine lv_iload hx hb d_Mo_advance_325 (lv_at hl 1 rfl) ?_
                    refine gs_20 hC hB (by decide) d_Mo_advance_327 (fun H locs hB => ?_)
                    refine lv_iconst (v := 1) hx hb d_Mo_advance_328 (by decide) ?_
                    exact g_zret hC hB hr hlk (by decide) (by decide) (by decide) (by rw [hf]) (by rw [hf]) d_Mo_advance_329
                  · have hf := hf.trans (if_pos c11)
                    have hok := hok.1 c11
                    refine lv_iconst (v := 1) hx hb d_Mo_advance_302 (by decide) ?_
                    refine lv_goto (tgt := 307) hx hb d_Mo_advance_303 (by decide) ?_
                    refine lv_iadd hx hb d_Mo_advance_307 ?_
                    refine gs_20 hC hB (by decide) d_Mo_advance_308 (fun H locs hB => ?_)
                    refine lv_aload_n hx hb d_Mo_advance_309 rfl (lv_at hl 9 rfl) ?_
                    refine lv_iload hx hb d_Mo_advance_310 (lv_at hl 5 rfl) ?_
                    refine lv_iload hx hb d_Mo_advance_312 (lv_at hl 0 rfl) ?_
                    refine gs_20 hC hB hok.1 d_Mo_advance_314 (fun H locs hB => ?_)
                    have hok := hok.2
                    refine lv_aload_n hx hb d_Mo_advance_315 rfl (lv_at hl 8 rfl) ?_
                    refine lv_iload hx hb d_Mo_advance_316 (lv_at hl 5 rfl) ?_
                    refine gp_16_14 hC hB fl_Mo_72 d_Mo_advance_318 (fun H locs hB => ?_)
                    refine lv_aload_n hx hb d_Mo_advance_321 rfl (lv_at hl 9 rfl) ?_
                    refine lv_sipush (v := 264) hx hb d_Mo_advance_322 (by decide) ?_
                    refine lv_iload hx hb d_Mo_advance_325 (lv_at hl 1 rfl) ?_
                    refine gs_20 hC hB (by decide) d_Mo_advance_327 (fun H locs hB => ?_)
                    refine lv_iconst (v := 1) hx hb d_Mo_advance_328 (by decide) ?_
                    exact g_zret hC hB hr hlk (by decide) (by decide) (by decide) (by rw [hf]) (by rw [hf]) d_Mo_advance_329
              · have hf := hf.trans (if_pos c8)
                have hok := hok.1 c8
                refine lv_aload_n hx hb d_Mo_advance_233 rfl (lv_at hl 8 rfl) ?_
                refine lv_bipush (v := 8) hx hb d_Mo_advance_234 (by decide) ?_
                refine lv_aload_n hx hb d_Mo_advance_236 rfl (lv_at hl 8 rfl) ?_
                refine lv_iload hx hb d_Mo_advance_237 (lv_at hl 3 rfl) ?_
                refine ga_20 (x := (G 20 ((((G 17 ((G 20 264).toNatClampNeg)) >>> (20 &&& 31)) &&& 7).toNatClampNeg))) hC hB hok.1 rfl d_Mo_advance_239 ?_
                have hok := hok.2
                refine lv_iload hx hb d_Mo_advance_240 (lv_at hl 1 rfl) ?_
                refine lv_iadd hx hb d_Mo_advance_242 ?_
                refine lv_sipush (v := 255) hx hb d_Mo_advance_243 (by decide) ?_
                refine lv_iand hx hb d_Mo_advance_246 ?_
                refine lv_iadd hx hb d_Mo_advance_247 ?_
                refine ga_20 (x := (G 20 ((8 + (((G 20 ((((G 17 ((G 20 264).toNatClampNeg)) >>> (20 &&& 31)) &&& 7).toNatClampNeg)) + (((G 17 ((G 20 264).toNatClampNeg)) <<< (16 &&& 31)) >>> (16 &&& 31))) &&& 255)).toNatClampNeg))) hC hB hok.1 rfl d_Mo_advance_248 ?_
                have hok := hok.2
                refine lv_goto (tgt := 287) hx hb d_Mo_advance_249 (by decide) ?_
                refine lv_istore (lv' := [(10, .int (G 20 ((8 + (((G 20 ((((G 17 ((G 20 264).toNatClampNeg)) >>> (20 &&& 31)) &&& 7).toNatClampNeg)) + (((G 17 ((G 20 264).toNatClampNeg)) <<< (16 &&& 31)) >>> (16 &&& 31))) &&& 255)).toNatClampNeg))), (9, .int (((G 20 264) + 1) &&& 63)), (8, .int (((G 17 ((G 20 264).toNatClampNeg)) <<< (16 &&& 31)) >>> (16 &&& 31))), (7, .int (((G 17 ((G 20 264).toNatClampNeg)) >>> (16 &&& 31)) &&& 7)), (6, .int (((G 17 ((G 20 264).toNatClampNeg)) >>> (20 &&& 31)) &&& 7)), (5, .int (((G 17 ((G 20 264).toNatClampNeg)) >>> (24 &&& 31)) &&& 7)), (4, .int (f_Mo_kindOf G (G 17 ((G 20 264).toNatClampNeg)))), (3, .int (G 17 ((G 20 264).toNatClampNeg))), (0, .ref (ad 16)), (1, .ref (ad 20)), (2, .int p2)]) hx hb d_Mo_advance_287 hl (by decide) rfl (fun ls hl => ?_)
                refine lv_aload_n hx hb d_Mo_advance_289 rfl (lv_at hl 9 rfl) ?_
                refine lv_sipush (v := 265) hx hb d_Mo_advance_290 (by decide) ?_
                refine lv_dup2_11 hx hb d_Mo_advance_293 rfl rfl ?_
                refine ga_20 (x := (G 20 265)) hC hB (by decide) rfl d_Mo_advance_294 ?_
                refine lv_iload hx hb d_Mo_advance_295 (lv_at hl 6 rfl) ?_
                refine lv_bipush (v := 8) hx hb d_Mo_advance_297 (by decide) ?_
                refine lv_icmp_ne (tgt := 306) hx hb d_Mo_advance_299 (by decide) (fun c12 => ?_) (fun c12 => ?_)
                · have hf := hf.trans (if_neg c12)
                  have hok := hok.2 c12
                  refine lv_iconst (v := 0) hx hb d_Mo_advance_306 (by decide) ?_
                  refine lv_iadd hx hb d_Mo_advance_307 ?_
                  refine gs_20 hC hB (by decide) d_Mo_advance_308 (fun H locs hB => ?_)
                  refine lv_aload_n hx hb d_Mo_advance_309 rfl (lv_at hl 9 rfl) ?_
                  refine lv_iload hx hb d_Mo_advance_310 (lv_at hl 5 rfl) ?_
                  refine lv_iload hx hb d_Mo_advance_312 (lv_at hl 0 rfl) ?_
                  refine gs_20 hC hB hok.1 d_Mo_advance_314 (fun H locs hB => ?_)
                  have hok := hok.2
                  refine lv_aload_n hx hb d_Mo_advance_315 rfl (lv_at hl 8 rfl) ?_
                  refine lv_iload hx hb d_Mo_advance_316 (lv_at hl 5 rfl) ?_
                  refine gp_16_14 hC hB fl_Mo_72 d_Mo_advance_318 (fun H locs hB => ?_)
                  refine lv_aload_n hx hb d_Mo_advance_321 rfl (lv_at hl 9 rfl) ?_
                  refine lv_sipush (v := 264) hx hb d_Mo_advance_322 (by decide) ?_
                  refine lv_iload hx hb d_Mo_advance_325 (lv_at hl 1 rfl) ?_
                  refine gs_20 hC hB (by decide) d_Mo_advance_327 (fun H locs hB => ?_)
                  refine lv_iconst (v := 1) hx hb d_Mo_advance_328 (by decide) ?_
                  exact g_zret hC hB hr hlk (by decide) (by decide) (by decide) (by rw [hf]) (by rw [hf]) d_Mo_advance_329
                · have hf := hf.trans (if_pos c12)
                  have hok := hok.1 c12
                  refine lv_iconst (v := 1) hx hb d_Mo_advance_302 (by decide) ?_
                  refine lv_goto (tgt := 307) hx hb d_Mo_advance_303 (by decide) ?_
                  refine lv_iadd hx hb d_Mo_advance_307 ?_
                  refine gs_20 hC hB (by decide) d_Mo_advance_308 (fun H locs hB => ?_)
                  refine lv_aload_n hx hb d_Mo_advance_309 rfl (lv_at hl 9 rfl) ?_
                  refine lv_iload hx hb d_Mo_advance_310 (lv_at hl 5 rfl) ?_
                  refine lv_iload hx hb d_Mo_advance_312 (lv_at hl 0 rfl) ?_
                  refine gs_20 hC hB hok.1 d_Mo_advance_314 (fun H locs hB => ?_)
                  have hok := hok.2
                  refine lv_aload_n hx hb d_Mo_advance_315 rfl (lv_at hl 8 rfl) ?_
                  refine lv_iload hx hb d_Mo_advance_316 (lv_at hl 5 rfl) ?_
                  refine gp_16_14 hC hB fl_Mo_72 d_Mo_advance_318 (fun H locs hB => ?_)
                  refine lv_aload_n hx hb d_Mo_advance_321 rfl (lv_at hl 9 rfl) ?_
                  refine lv_sipush (v := 264) hx hb d_Mo_advance_322 (by decide) ?_
                  refine lv_iload hx hb d_Mo_advance_325 (lv_at hl 1 rfl) ?_
                  refine gs_20 hC hB (by decide) d_Mo_advance_327 (fun H locs hB => ?_)
                  refine lv_iconst (v := 1) hx hb d_Mo_advance_328 (by decide) ?_
                  exact g_zret hC hB hr hlk (by decide) (by decide) (by decide) (by rw [hf]) (by rw [hf]) d_Mo_advance_329
            · have hf := hf.trans (if_pos c7)
              have hok := hok.1 c7
              refine lv_aload_n hx hb d_Mo_advance_196 rfl (lv_at hl 7 rfl) ?_
              refine lv_bipush (v := 8) hx hb d_Mo_advance_197 (by decide) ?_
              refine lv_aload_n hx hb d_Mo_advance_199 rfl (lv_at hl 8 rfl) ?_
              refine lv_iload hx hb d_Mo_advance_200 (lv_at hl 3 rfl) ?_
              refine ga_20 (x := (G 20 ((((G 17 ((G 20 264).toNatClampNeg)) >>> (20 &&& 31)) &&& 7).toNatClampNeg))) hC hB hok.1 rfl d_Mo_advance_202 ?_
              have hok := hok.2
              refine lv_iload hx hb d_Mo_advance_203 (lv_at hl 1 rfl) ?_
              refine lv_iadd hx hb d_Mo_advance_205 ?_
              refine lv_sipush (v := 255) hx hb d_Mo_advance_206 (by decide) ?_
              refine lv_iand hx hb d_Mo_advance_209 ?_
              refine lv_iadd hx hb d_Mo_advance_210 ?_
              refine gp_16_14 hC hB fl_Mo_72 d_Mo_advance_211 (fun H locs hB => ?_)
              refine lv_aload_n hx hb d_Mo_advance_214 rfl (lv_at hl 8 rfl) ?_
              refine lv_aload_n hx hb d_Mo_advance_215 rfl (lv_at hl 7 rfl) ?_
              refine gg_16_14 (x := 8 + (((G 20 ((((G 17 ((G 20 264).toNatClampNeg)) >>> (20 &&& 31)) &&& 7).toNatClampNeg)) + (((G 17 ((G 20 264).toNatClampNeg)) <<< (16 &&& 31)) >>> (16 &&& 31))) &&& 255)) hC hB rfl fl_Mo_72 d_Mo_advance_216 ?_
              refine lv_aload_n hx hb d_Mo_advance_219 rfl (lv_at hl 8 rfl) ?_
              refine lv_iload hx hb d_Mo_advance_220 (lv_at hl 4 rfl) ?_
              refine ga_20 (x := (G 20 ((((G 17 ((G 20 264).toNatClampNeg)) >>> (24 &&& 31)) &&& 7).toNatClampNeg))) hC hB hok.1 rfl d_Mo_advance_222 ?_
              have hok := hok.2
              refine gs_20 hC hB hok.1 d_Mo_advance_223 (fun H locs hB => ?_)
              have hok := hok.2
              refine lv_goto (tgt := 321) hx hb d_Mo_advance_224 (by decide) ?_
              refine lv_aload_n hx hb d_Mo_advance_321 rfl (lv_at hl 8 rfl) ?_
              refine lv_sipush (v := 264) hx hb d_Mo_advance_322 (by decide) ?_
              refine lv_iload hx hb d_Mo_advance_325 (lv_at hl 0 rfl) ?_
              refine gs_20 hC hB (by decide) d_Mo_advance_327 (fun H locs hB => ?_)
              refine lv_iconst (v := 1) hx hb d_Mo_advance_328 (by decide) ?_
              exact g_zret hC hB hr hlk (by decide) (by decide) (by decide) (by rw [hf]) (by rw [hf]) d_Mo_advance_329
          · have hf := hf.trans (if_pos c6)
            have hok := hok.1 c6
            refine lv_aload_n hx hb d_Mo_advance_159 rfl (lv_at hl 8 rfl) ?_
            refine lv_sipush (v := 266) hx hb d_Mo_advance_160 (by decide) ?_
            refine lv_dup2_11 hx hb d_Mo_advance_163 rfl rfl ?_
            refine ga_20 (x := (G 20 266)) hC hB (by decide) rfl d_Mo_advance_164 ?_
            refine lv_iconst (v := 1) hx hb d_Mo_advance_165 (by decide) ?_
            refine lv_iadd hx hb d_Mo_advance_166 ?_
            refine gs_20 hC hB (by decide) d_Mo_advance_167 (fun H locs hB => ?_)
            refine lv_aload_n hx hb d_Mo_advance_168 rfl (lv_at hl 8 rfl) ?_
            refine lv_sipush (v := 267) hx hb d_Mo_advance_169 (by decide) ?_
            refine lv_bipush (v := 31) hx hb d_Mo_advance_172 (by decide) ?_
            refine lv_aload_n hx hb d_Mo_advance_174 rfl (lv_at hl 8 rfl) ?_
            refine lv_sipush (v := 267) hx hb d_Mo_advance_175 (by decide) ?_
            refine ga_20 (x := (G 20 267)) hC hB (by decide) rfl d_Mo_advance_178 ?_
            refine lv_imul hx hb d_Mo_advance_179 ?_
            refine lv_aload_n hx hb d_Mo_advance_180 rfl (lv_at hl 8 rfl) ?_
            refine lv_iload hx hb d_Mo_advance_181 (lv_at hl 4 rfl) ?_
            refine ga_20 (x := ((g_up (g_up G 16 14 (-1)) 20 266 ((G 20 266) + 1)) 20 ((((G 17 ((G 20 264).toNatClampNeg)) >>> (24 &&& 31)) &&& 7).toNatClampNeg))) hC hB hok.1 rfl d_Mo_advance_183 ?_
            have hok := hok.2
            refine lv_iadd hx hb d_Mo_advance_184 ?_
            refine gs_20 hC hB (by decide) d_Mo_advance_185 (fun H locs hB => ?_)
            refine lv_goto (tgt := 321) hx hb d_Mo_advance_186 (by decide) ?_
            refine lv_aload_n hx hb d_Mo_advance_321 rfl (lv_at hl 8 rfl) ?_
            refine lv_sipush (v := 264) hx hb d_Mo_advance_322 (by decide) ?_
            refine lv_iload hx hb d_Mo_advance_325 (lv_at hl 0 rfl) ?_
            refine gs_20 hC hB (by decide) d_Mo_advance_327 (fun H locs hB => ?_)
            refine lv_iconst (v := 1) hx hb d_Mo_advance_328 (by decide) ?_
            exact g_zret hC hB hr hlk (by decide) (by decide) (by decide) (by rw [hf]) (by rw [hf]) d_Mo_advance_329
        · have hf := hf.trans (if_pos c5)
          have hok := hok.1 c5
          refine lv_aload_n hx hb d_Mo_advance_124 rfl (lv_at hl 8 rfl) ?_
          refine lv_iload hx hb d_Mo_advance_125 (lv_at hl 4 rfl) ?_
          refine ga_20 (x := (G 20 ((((G 17 ((G 20 264).toNatClampNeg)) >>> (24 &&& 31)) &&& 7).toNatClampNeg))) hC hB hok.1 rfl d_Mo_advance_127 ?_
          have hok := hok.2
          refine lv_if_eq (tgt := 145) hx hb d_Mo_advance_128 (by decide) (fun c13 => ?_) (fun c13 => ?_)
          · have hf := hf.trans (if_pos c13)
            refine lv_iload hx hb d_Mo_advance_145 (lv_at hl 0 rfl) ?_
            refine lv_istore (lv' := [(9, .int (((G 20 264) + 1) &&& 63)), (8, .int (((G 17 ((G 20 264).toNatClampNeg)) <<< (16 &&& 31)) >>> (16 &&& 31))), (7, .int (((G 17 ((G 20 264).toNatClampNeg)) >>> (16 &&& 31)) &&& 7)), (6, .int (((G 17 ((G 20 264).toNatClampNeg)) >>> (20 &&& 31)) &&& 7)), (5, .int (((G 17 ((G 20 264).toNatClampNeg)) >>> (24 &&& 31)) &&& 7)), (4, .int (f_Mo_kindOf G (G 17 ((G 20 264).toNatClampNeg)))), (3, .int (G 17 ((G 20 264).toNatClampNeg))), (0, .ref (ad 16)), (1, .ref (ad 20)), (2, .int p2)]) hx hb d_Mo_advance_147 hl (by decide) rfl (fun ls hl => ?_)
            refine lv_goto (tgt := 321) hx hb d_Mo_advance_149 (by decide) ?_
            refine lv_aload_n hx hb d_Mo_advance_321 rfl (lv_at hl 8 rfl) ?_
            refine lv_sipush (v := 264) hx hb d_Mo_advance_322 (by decide) ?_
            refine lv_iload hx hb d_Mo_advance_325 (lv_at hl 0 rfl) ?_
            refine gs_20 hC hB (by decide) d_Mo_advance_327 (fun H locs hB => ?_)
            refine lv_iconst (v := 1) hx hb d_Mo_advance_328 (by decide) ?_
            exact g_zret hC hB hr hlk (by decide) (by decide) (by decide) (by rw [hf]) (by rw [hf]) d_Mo_advance_329
          · have hf := hf.trans (if_neg c13)
            refine lv_aload_n hx hb d_Mo_advance_131 rfl (lv_at hl 8 rfl) ?_
            refine lv_sipush (v := 264) hx hb d_Mo_advance_132 (by decide) ?_
            refine ga_20 (x := (G 20 264)) hC hB (by decide) rfl d_Mo_advance_135 ?_
            refine lv_iload hx hb d_Mo_advance_136 (lv_at hl 1 rfl) ?_
            refine lv_iadd hx hb d_Mo_advance_138 ?_
            refine lv_bipush (v := 63) hx hb d_Mo_advance_139 (by decide) ?_
            refine lv_iand hx hb d_Mo_advance_141 ?_
            refine lv_goto (tgt := 147) hx hb d_Mo_advance_142 (by decide) ?_
            refine lv_istore (lv' := [(9, .int (((G 20 264) + (((G 17 ((G 20 264).toNatClampNeg)) <<< (16 &&& 31)) >>> (16 &&& 31))) &&& 63)), (8, .int (((G 17 ((G 20 264).toNatClampNeg)) <<< (16 &&& 31)) >>> (16 &&& 31))), (7, .int (((G 17 ((G 20 264).toNatClampNeg)) >>> (16 &&& 31)) &&& 7)), (6, .int (((G 17 ((G 20 264).toNatClampNeg)) >>> (20 &&& 31)) &&& 7)), (5, .int (((G 17 ((G 20 264).toNatClampNeg)) >>> (24 &&& 31)) &&& 7)), (4, .int (f_Mo_kindOf G (G 17 ((G 20 264).toNatClampNeg)))), (3, .int (G 17 ((G 20 264).toNatClampNeg))), (0, .ref (ad 16)), (1, .ref (ad 20)), (2, .int p2)]) hx hb d_Mo_advance_147 hl (by decide) rfl (fun ls hl => ?_)
            refine lv_goto (tgt := 321) hx hb d_Mo_advance_149 (by decide) ?_
            refine lv_aload_n hx hb d_Mo_advance_321 rfl (lv_at hl 8 rfl) ?_
            refine lv_sipush (v := 264) hx hb d_Mo_advance_322 (by decide) ?_
            refine lv_iload hx hb d_Mo_advance_325 (lv_at hl 0 rfl) ?_
            refine gs_20 hC hB (by decide) d_Mo_advance_327 (fun H locs hB => ?_)
            refine lv_iconst (v := 1) hx hb d_Mo_advance_328 (by decide) ?_
            exact g_zret hC hB hr hlk (by decide) (by decide) (by decide) (by rw [hf]) (by rw [hf]) d_Mo_advance_329
      · have hf := hf.trans (if_neg c4)
        have hok := hok.2 c4
        refine lv_aload_n hx hb d_Mo_advance_88 rfl (lv_at hl 7 rfl) ?_
        refine lv_sipush (v := 268) hx hb d_Mo_advance_89 (by decide) ?_
        refine lv_iload hx hb d_Mo_advance_92 (lv_at hl 4 rfl) ?_
        refine lv_if_ne (tgt := 101) hx hb d_Mo_advance_94 (by decide) (fun c14 => ?_) (fun c14 => ?_)
        · have hf := hf.trans (if_neg c14)
          refine lv_iconst (v := 2) hx hb d_Mo_advance_101 (by decide) ?_
          refine gs_20 hC hB (by decide) d_Mo_advance_102 (fun H locs hB => ?_)
          refine lv_iconst (v := 1) hx hb d_Mo_advance_103 (by decide) ?_
          exact g_zret hC hB hr hlk (by decide) (by decide) (by decide) (by rw [hf]) (by rw [hf]) d_Mo_advance_104
        · have hf := hf.trans (if_pos c14)
          refine lv_iconst (v := 1) hx hb d_Mo_advance_97 (by decide) ?_
          refine lv_goto (tgt := 102) hx hb d_Mo_advance_98 (by decide) ?_
          refine gs_20 hC hB (by decide) d_Mo_advance_102 (fun H locs hB => ?_)
          refine lv_iconst (v := 1) hx hb d_Mo_advance_103 (by decide) ?_
          exact g_zret hC hB hr hlk (by decide) (by decide) (by decide) (by rw [hf]) (by rw [hf]) d_Mo_advance_104
  · have hf := hf.trans (if_pos c1)
    have hok := hok.1 c1
    refine lv_aload_n hx hb d_Mo_advance_65 rfl (lv_at hl 7 rfl) ?_
    refine lv_sipush (v := 265) hx hb d_Mo_advance_66 (by decide) ?_
    refine ga_20 (x := (G 20 265)) hC hB (by decide) rfl d_Mo_advance_69 ?_
    refine lv_iload_n hx hb d_Mo_advance_70 rfl (lv_at hl 8 rfl) ?_
    refine lv_icmp_lt (tgt := 76) hx hb d_Mo_advance_71 (by decide) (fun c15 => ?_) (fun c15 => ?_)
    · have hf := hf.trans (if_pos c15)
      have hok := hok.1 c15
      refine lv_iload hx hb d_Mo_advance_76 (lv_at hl 4 rfl) ?_
      refine lv_if_eq (tgt := 88) hx hb d_Mo_advance_78 (by decide) (fun c16 => ?_) (fun c16 => ?_)
      · have hf := hf.trans (if_pos c16)
        have hok := hok.1 c16
        refine lv_aload_n hx hb d_Mo_advance_88 rfl (lv_at hl 7 rfl) ?_
        refine lv_sipush (v := 268) hx hb d_Mo_advance_89 (by decide) ?_
        refine lv_iload hx hb d_Mo_advance_92 (lv_at hl 4 rfl) ?_
        refine lv_if_ne (tgt := 101) hx hb d_Mo_advance_94 (by decide) (fun c17 => ?_) (fun c17 => ?_)
        · have hf := hf.trans (if_neg c17)
          refine lv_iconst (v := 2) hx hb d_Mo_advance_101 (by decide) ?_
          refine gs_20 hC hB (by decide) d_Mo_advance_102 (fun H locs hB => ?_)
          refine lv_iconst (v := 1) hx hb d_Mo_advance_103 (by decide) ?_
          exact g_zret hC hB hr hlk (by decide) (by decide) (by decide) (by rw [hf]) (by rw [hf]) d_Mo_advance_104
        · have hf := hf.trans (if_pos c17)
          refine lv_iconst (v := 1) hx hb d_Mo_advance_97 (by decide) ?_
          refine lv_goto (tgt := 102) hx hb d_Mo_advance_98 (by decide) ?_
          refine gs_20 hC hB (by decide) d_Mo_advance_102 (fun H locs hB => ?_)
          refine lv_iconst (v := 1) hx hb d_Mo_advance_103 (by decide) ?_
          exact g_zret hC hB hr hlk (by decide) (by decide) (by decide) (by rw [hf]) (by rw [hf]) d_Mo_advance_104
      · have hf := hf.trans (if_neg c16)
        have hok := hok.2 c16
        refine lv_iload hx hb d_Mo_advance_81 (lv_at hl 4 rfl) ?_
        refine lv_bipush (v := 12) hx hb d_Mo_advance_83 (by decide) ?_
        refine lv_icmp_le (tgt := 105) hx hb d_Mo_advance_85 (by decide) (fun c18 => ?_) (fun c18 => ?_)
        · have hf := hf.trans (if_pos c18)
          have hok := hok.1 c18
          refine lv_aload_n hx hb d_Mo_advance_105 rfl (lv_at hl 7 rfl) ?_
          refine lv_sipush (v := 264) hx hb d_Mo_advance_106 (by decide) ?_
          refine ga_20 (x := (G 20 264)) hC hB (by decide) rfl d_Mo_advance_109 ?_
          refine lv_iconst (v := 1) hx hb d_Mo_advance_110 (by decide) ?_
          refine lv_iadd hx hb d_Mo_advance_111 ?_
          refine lv_bipush (v := 63) hx hb d_Mo_advance_112 (by decide) ?_
          refine lv_iand hx hb d_Mo_advance_114 ?_
          refine lv_istore (lv' := [(9, .int (((G 20 264) + 1) &&& 63)), (8, .int (((G 17 ((G 20 264).toNatClampNeg)) <<< (16 &&& 31)) >>> (16 &&& 31))), (7, .int (((G 17 ((G 20 264).toNatClampNeg)) >>> (16 &&& 31)) &&& 7)), (6, .int (((G 17 ((G 20 264).toNatClampNeg)) >>> (20 &&& 31)) &&& 7)), (5, .int (((G 17 ((G 20 264).toNatClampNeg)) >>> (24 &&& 31)) &&& 7)), (4, .int (f_Mo_kindOf G (G 17 ((G 20 264).toNatClampNeg)))), (3, .int (G 17 ((G 20 264).toNatClampNeg))), (0, .ref (ad 16)), (1, .ref (ad 20)), (2, .int p2)]) hx hb d_Mo_advance_115 hl (by decide) rfl (fun ls hl => ?_)
          refine lv_iload hx hb d_Mo_advance_117 (lv_at hl 5 rfl) ?_
          refine lv_bipush (v := 7) hx hb d_Mo_advance_119 (by decide) ?_
          refine lv_icmp_ne (tgt := 152) hx hb d_Mo_advance_121 (by decide) (fun c19 => ?_) (fun c19 => ?_)
          · have hf := hf.trans (if_neg c19)
            have hok := hok.2 c19
            refine lv_iload hx hb d_Mo_advance_152 (lv_at hl 5 rfl) ?_
            refine lv_bipush (v := 9) hx hb d_Mo_advance_154 (by decide) ?_
            refine lv_icmp_ne (tgt := 189) hx hb d_Mo_advance_156 (by decide) (fun c20 => ?_) (fun c20 => ?_)
            · have hf := hf.trans (if_neg c20)
              have hok := hok.2 c20
              refine lv_iload hx hb d_Mo_advance_189 (lv_at hl 5 rfl) ?_
              refine lv_bipush (v := 6) hx hb d_Mo_advance_191 (by decide) ?_
              refine lv_icmp_ne (tgt := 227) hx hb d_Mo_advance_193 (by decide) (fun c21 => ?_) (fun c21 => ?_)
              · have hf := hf.trans (if_neg c21)
                have hok := hok.2 c21
                refine lv_iload hx hb d_Mo_advance_227 (lv_at hl 5 rfl) ?_
                refine lv_iconst (v := 5) hx hb d_Mo_advance_229 (by decide) ?_
                refine lv_icmp_ne (tgt := 252) hx hb d_Mo_advance_230 (by decide) (fun c22 => ?_) (fun c22 => ?_)
                · have hf := hf.trans (if_neg c22)
                  have hok := hok.2 c22
                  refine lv_iload hx hb d_Mo_advance_252 (lv_at hl 5 rfl) ?_
                  refine lv_bipush (v := 8) hx hb d_Mo_advance_254 (by decide) ?_
                  refine lv_icmp_ne (tgt := 272) hx hb d_Mo_advance_256 (by decide) (fun c23 => ?_) (fun c23 => ?_)
                  · have hf := hf.trans (if_neg c23)
                    have hok := hok.2 c23
                    refine lv_iload hx hb d_Mo_advance_272 (lv_at hl 5 rfl) ?_
                    refine lv_aload_n hx hb d_Mo_advance_274 rfl (lv_at hl 8 rfl) ?_
                    refine lv_iload hx hb d_Mo_advance_275 (lv_at hl 3 rfl) ?_
                    refine ga_20 (x := (G 20 ((((G 17 ((G 20 264).toNatClampNeg)) >>> (20 &&& 31)) &&& 7).toNatClampNeg))) hC hB hok.1 rfl d_Mo_advance_277 ?_
                    have hok := hok.2
                    refine lv_aload_n hx hb d_Mo_advance_278 rfl (lv_at hl 8 rfl) ?_
                    refine lv_iload hx hb d_Mo_advance_279 (lv_at hl 2 rfl) ?_
                    refine ga_20 (x := (G 20 ((((G 17 ((G 20 264).toNatClampNeg)) >>> (16 &&& 31)) &&& 7).toNatClampNeg))) hC hB hok.1 rfl d_Mo_advance_281 ?_
                    have hok := hok.2
                    refine lv_iload hx hb d_Mo_advance_282 (lv_at hl 1 rfl) ?_
                    refine g_callSi (As := [.int (f_Mo_kindOf G (G 17 ((G 20 264).toNatClampNeg))), .int (G 20 ((((G 17 ((G 20 264).toNatClampNeg)) >>> (20 &&& 31)) &&& 7).toNatClampNeg)), .int (G 20 ((((G 17 ((G 20 264).toNatClampNeg)) >>> (16 &&& 31)) &&& 7).toNatClampNeg)), .int (((G 17 ((G 20 264).toNatClampNeg)) <<< (16 &&& 31)) >>> (16 &&& 31))]) (rest := []) hC hB (c_Mo_result l (g_up G 16 14 (-1)) (f_Mo_kindOf G (G 17 ((G 20 264).toNatClampNeg))) (G 20 ((((G 17 ((G 20 264).toNatClampNeg)) >>> (20 &&& 31)) &&& 7).toNatClampNeg)) (G 20 ((((G 17 ((G 20 264).toNatClampNeg)) >>> (16 &&& 31)) &&& 7).toNatClampNeg)) (((G 17 ((G 20 264).toNatClampNeg)) <<< (16 &&& 31)) >>> (16 &&& 31)) O) rfl key_Mo_result rfl sta_Mo_result ml_Mo_75 rfl hl.1 ⟨Nat.le_of_ble_eq_true rfl, Nat.le_of_ble_eq_true rfl, Nat.le_of_ble_eq_true rfl, Nat.le_of_ble_eq_true rfl⟩ d_Mo_advance_284 (fun H locs hB => ?_)
                    refine lv_istore (lv' := [(10, .int (f_Mo_result (g_up G 16 14 (-1)) (f_Mo_kindOf G (G 17 ((G 20 264).toNatClampNeg))) (G 20 ((((G 17 ((G 20 264).toNatClampNeg)) >>> (20 &&& 31)) &&& 7).toNatClampNeg)) (G 20 ((((G 17 ((G 20 264).toNatClampNeg)) >>> (16 &&& 31)) &&& 7).toNatClampNeg)) (((G 17 ((G 20 264).toNatClampNeg)) <<< (16 &&& 31)) >>> (16 &&& 31)))), (9, .int (((G 20 264) + 1) &&& 63)), (8, .int (((G 17 ((G 20 264).toNatClampNeg)) <<< (16 &&& 31)) >>> (16 &&& 31))), (7, .int (((G 17 ((G 20 264).toNatClampNeg)) >>> (16 &&& 31)) &&& 7)), (6, .int (((G 17 ((G 20 264).toNatClampNeg)) >>> (20 &&& 31)) &&& 7)), (5, .int (((G 17 ((G 20 264).toNatClampNeg)) >>> (24 &&& 31)) &&& 7)), (4, .int (f_Mo_kindOf G (G 17 ((G 20 264).toNatClampNeg)))), (3, .int (G 17 ((G 20 264).toNatClampNeg))), (0, .ref (ad 16)), (1, .ref (ad 20)), (2, .int p2)]) hx hb d_Mo_advance_287 hl (by decide) rfl (fun ls hl => ?_)
                    refine lv_aload_n hx hb d_Mo_advance_289 rfl (lv_at hl 9 rfl) ?_
                    refine lv_sipush (v := 265) hx hb d_Mo_advance_290 (by decide) ?_
                    refine lv_dup2_11 hx hb d_Mo_advance_293 rfl rfl ?_
                    refine ga_20 (x := (G 20 265)) hC hB (by decide) rfl d_Mo_advance_294 ?_
                    refine lv_iload hx hb d_Mo_advance_295 (lv_at hl 6 rfl) ?_
                    refine lv_bipush (v := 8) hx hb d_Mo_advance_297 (by decide) ?_
                    refine lv_icmp_ne (tgt := 306) hx hb d_Mo_advance_299 (by decide) (fun c24 => ?_) (fun c24 => ?_)
                    · have hf := hf.trans (if_neg c24)
                      have hok := hok.2 c24
                      refine lv_iconst (v := 0) hx hb d_Mo_advance_306 (by decide) ?_
                      refine lv_iadd hx hb d_Mo_advance_307 ?_
                      refine gs_20 hC hB (by decide) d_Mo_advance_308 (fun H locs hB => ?_)
                      refine lv_aload_n hx hb d_Mo_advance_309 rfl (lv_at hl 9 rfl) ?_
                      refine lv_iload hx hb d_Mo_advance_310 (lv_at hl 5 rfl) ?_
                      refine lv_iload hx hb d_Mo_advance_312 (lv_at hl 0 rfl) ?_
                      refine gs_20 hC hB hok.1 d_Mo_advance_314 (fun H locs hB => ?_)
                      have hok := hok.2
                      refine lv_aload_n hx hb d_Mo_advance_315 rfl (lv_at hl 8 rfl) ?_
                      refine lv_iload hx hb d_Mo_advance_316 (lv_at hl 5 rfl) ?_
                      refine gp_16_14 hC hB fl_Mo_72 d_Mo_advance_318 (fun H locs hB => ?_)
                      refine lv_aload_n hx hb d_Mo_advance_321 rfl (lv_at hl 9 rfl) ?_
                      refine lv_sipush (v := 264) hx hb d_Mo_advance_322 (by decide) ?_
                      refine lv_iload hx hb d_Mo_advance_325 (lv_at hl 1 rfl) ?_
                      refine gs_20 hC hB (by decide) d_Mo_advance_327 (fun H locs hB => ?_)
                      refine lv_iconst (v := 1) hx hb d_Mo_advance_328 (by decide) ?_
                      exact g_zret hC hB hr hlk (by decide) (by decide) (by decide) (by rw [hf]) (by rw [hf]) d_Mo_advance_329
                    · have hf := hf.trans (if_pos c24)
                      have hok := hok.1 c24
                      refine lv_iconst (v := 1) hx hb d_Mo_advance_302 (by decide) ?_
                      refine lv_goto (tgt := 307) hx hb d_Mo_advance_303 (by decide) ?_
                      refine lv_iadd hx hb d_Mo_advance_307 ?_
                      refine gs_20 hC hB (by decide) d_Mo_advance_308 (fun H locs hB => ?_)
                      refine lv_aload_n hx hb d_Mo_advance_309 rfl (lv_at hl 9 rfl) ?_
                      refine lv_iload hx hb d_Mo_advance_310 (lv_at hl 5 rfl) ?_
                      refine lv_iload hx hb d_Mo_advance_312 (lv_at hl 0 rfl) ?_
                      refine gs_20 hC hB hok.1 d_Mo_advance_314 (fun H locs hB => ?_)
                      have hok := hok.2
                      refine lv_aload_n hx hb d_Mo_advance_315 rfl (lv_at hl 8 rfl) ?_
                      refine lv_iload hx hb d_Mo_advance_316 (lv_at hl 5 rfl) ?_
                      refine gp_16_14 hC hB fl_Mo_72 d_Mo_advance_318 (fun H locs hB => ?_)
                      refine lv_aload_n hx hb d_Mo_advance_321 rfl (lv_at hl 9 rfl) ?_
                      refine lv_sipush (v := 264) hx hb d_Mo_advance_322 (by decide) ?_
                      refine lv_iload hx hb d_Mo_advance_325 (lv_at hl 1 rfl) ?_
                      refine gs_20 hC hB (by decide) d_Mo_advance_327 (fun H locs hB => ?_)
                      refine lv_iconst (v := 1) hx hb d_Mo_advance_328 (by decide) ?_
                      exact g_zret hC hB hr hlk (by decide) (by decide) (by decide) (by rw [hf]) (by rw [hf]) d_Mo_advance_329
                  · have hf := hf.trans (if_pos c23)
                    have hok := hok.1 c23
                    refine lv_aload_n hx hb d_Mo_advance_259 rfl (lv_at hl 7 rfl) ?_
                    refine gr_16_5 hC hB fl_Mo_13 d_Mo_advance_260 ?_
                    refine lv_aload_n hx hb d_Mo_advance_263 rfl (lv_at hl 8 rfl) ?_
                    refine lv_sipush (v := 265) hx hb d_Mo_advance_264 (by decide) ?_
                    refine ga_20 (x := (G 20 265)) hC hB (by decide) rfl d_Mo_advance_267 ?_
                    refine ga_18 (x := (G 18 ((G 20 265).toNatClampNeg))) hC hB hok.1 rfl d_Mo_advance_268 ?_
                    have hok := hok.2
                    refine lv_goto (tgt := 287) hx hb d_Mo_advance_269 (by decide) ?_
                    refine lv_istore (lv' := [(10, .int (G 18 ((G 20 265).toNatClampNeg))), (9, .int (((G 20 264) + 1) &&& 63)), (8, .int (((G 17 ((G 20 264).toNatClampNeg)) <<< (16 &&& 31)) >>> (16 &&& 31))), (7, .int (((G 17 ((G 20 264).toNatClampNeg)) >>> (16 &&& 31)) &&& 7)), (6, .int (((G 17 ((G 20 264).toNatClampNeg)) >>> (20 &&& 31)) &&& 7)), (5, .int (((G 17 ((G 20 264).toNatClampNeg)) >>> (24 &&& 31)) &&& 7)), (4, .int (f_Mo_kindOf G (G 17 ((G 20 264).toNatClampNeg)))), (3, .int (G 17 ((G 20 264).toNatClampNeg))), (0, .ref (ad 16)), (1, .ref (ad 20)), (2, .int p2)]) hx hb d_Mo_advance_287 hl (by decide) rfl (fun ls hl => ?_)
                    refine lv_aload_n hx hb d_Mo_advance_289 rfl (lv_at hl 9 rfl) ?_
                    refine lv_sipush (v := 265) hx hb d_Mo_advance_290 (by decide) ?_
                    refine lv_dup2_11 hx hb d_Mo_advance_293 rfl rfl ?_
                    refine ga_20 (x := (G 20 265)) hC hB (by decide) rfl d_Mo_advance_294 ?_
                    refine lv_iload hx hb d_Mo_advance_295 (lv_at hl 6 rfl) ?_
                    refine lv_bipush (v := 8) hx hb d_Mo_advance_297 (by decide) ?_
                    refine lv_icmp_ne (tgt := 306) hx hb d_Mo_advance_299 (by decide) (fun c25 => ?_) (fun c25 => ?_)
                    · have hf := hf.trans (if_neg c25)
                      have hok := hok.2 c25
                      refine lv_iconst (v := 0) hx hb d_Mo_advance_306 (by decide) ?_
                      refine lv_iadd hx hb d_Mo_advance_307 ?_
                      refine gs_20 hC hB (by decide) d_Mo_advance_308 (fun H locs hB => ?_)
                      refine lv_aload_n hx hb d_Mo_advance_309 rfl (lv_at hl 9 rfl) ?_
                      refine lv_iload hx hb d_Mo_advance_310 (lv_at hl 5 rfl) ?_
                      refine lv_iload hx hb d_Mo_advance_312 (lv_at hl 0 rfl) ?_
                      refine gs_20 hC hB hok.1 d_Mo_advance_314 (fun H locs hB => ?_)
                      have hok := hok.2
                      refine lv_aload_n hx hb d_Mo_advance_315 rfl (lv_at hl 8 rfl) ?_
                      refine lv_iload hx hb d_Mo_advance_316 (lv_at hl 5 rfl) ?_
                      refine gp_16_14 hC hB fl_Mo_72 d_Mo_advance_318 (fun H locs hB => ?_)
                      refine lv_aload_n hx hb d_Mo_advance_321 rfl (lv_at hl 9 rfl) ?_
                      refine lv_sipush (v := 264) hx hb d_Mo_advance_322 (by decide) ?_
                      refine lv_iload hx hb d_Mo_advance_325 (lv_at hl 1 rfl) ?_
                      refine gs_20 hC hB (by decide) d_Mo_advance_327 (fun H locs hB => ?_)
                      refine lv_iconst (v := 1) hx hb d_Mo_advance_328 (by decide) ?_
                      exact g_zret hC hB hr hlk (by decide) (by decide) (by decide) (by rw [hf]) (by rw [hf]) d_Mo_advance_329
                    · have hf := hf.trans (if_pos c25)
                      have hok := hok.1 c25
                      refine lv_iconst (v := 1) hx hb d_Mo_advance_302 (by decide) ?_
                      refine lv_goto (tgt := 307) hx hb d_Mo_advance_303 (by decide) ?_
                      refine lv_iadd hx hb d_Mo_advance_307 ?_
                      refine gs_20 hC hB (by decide) d_Mo_advance_308 (fun H locs hB => ?_)
                      refine lv_aload_n hx hb d_Mo_advance_309 rfl (lv_at hl 9 rfl) ?_
                      refine lv_iload hx hb d_Mo_advance_310 (lv_at hl 5 rfl) ?_
                      refine lv_iload hx hb d_Mo_advance_312 (lv_at hl 0 rfl) ?_
                      refine gs_20 hC hB hok.1 d_Mo_advance_314 (fun H locs hB => ?_)
                      have hok := hok.2
                      refine lv_aload_n hx hb d_Mo_advance_315 rfl (lv_at hl 8 rfl) ?_
                      refine lv_iload hx hb d_Mo_advance_316 (lv_at hl 5 rfl) ?_
                      refine gp_16_14 hC hB fl_Mo_72 d_Mo_advance_318 (fun H locs hB => ?_)
                      refine lv_aload_n hx hb d_Mo_advance_321 rfl (lv_at hl 9 rfl) ?_
                      refine lv_sipush (v := 264) hx hb d_Mo_advance_322 (by decide) ?_
                      refine lv_iload hx hb d_Mo_advance_325 (lv_at hl 1 rfl) ?_
                      refine gs_20 hC hB (by decide) d_Mo_advance_327 (fun H locs hB => ?_)
                      refine lv_iconst (v := 1) hx hb d_Mo_advance_328 (by decide) ?_
                      exact g_zret hC hB hr hlk (by decide) (by decide) (by decide) (by rw [hf]) (by rw [hf]) d_Mo_advance_329
                · have hf := hf.trans (if_pos c22)
                  have hok := hok.1 c22
                  refine lv_aload_n hx hb d_Mo_advance_233 rfl (lv_at hl 8 rfl) ?_
                  refine lv_bipush (v := 8) hx hb d_Mo_advance_234 (by decide) ?_
                  refine lv_aload_n hx hb d_Mo_advance_236 rfl (lv_at hl 8 rfl) ?_
                  refine lv_iload hx hb d_Mo_advance_237 (lv_at hl 3 rfl) ?_
                  refine ga_20 (x := (G 20 ((((G 17 ((G 20 264).toNatClampNeg)) >>> (20 &&& 31)) &&& 7).toNatClampNeg))) hC hB hok.1 rfl d_Mo_advance_239 ?_
                  have hok := hok.2
                  refine lv_iload hx hb d_Mo_advance_240 (lv_at hl 1 rfl) ?_
                  refine lv_iadd hx hb d_Mo_advance_242 ?_
                  refine lv_sipush (v := 255) hx hb d_Mo_advance_243 (by decide) ?_
                  refine lv_iand hx hb d_Mo_advance_246 ?_
                  refine lv_iadd hx hb d_Mo_advance_247 ?_
                  refine ga_20 (x := (G 20 ((8 + (((G 20 ((((G 17 ((G 20 264).toNatClampNeg)) >>> (20 &&& 31)) &&& 7).toNatClampNeg)) + (((G 17 ((G 20 264).toNatClampNeg)) <<< (16 &&& 31)) >>> (16 &&& 31))) &&& 255)).toNatClampNeg))) hC hB hok.1 rfl d_Mo_advance_248 ?_
                  have hok := hok.2
                  refine lv_goto (tgt := 287) hx hb d_Mo_advance_249 (by decide) ?_
                  refine lv_istore (lv' := [(10, .int (G 20 ((8 + (((G 20 ((((G 17 ((G 20 264).toNatClampNeg)) >>> (20 &&& 31)) &&& 7).toNatClampNeg)) + (((G 17 ((G 20 264).toNatClampNeg)) <<< (16 &&& 31)) >>> (16 &&& 31))) &&& 255)).toNatClampNeg))), (9, .int (((G 20 264) + 1) &&& 63)), (8, .int (((G 17 ((G 20 264).toNatClampNeg)) <<< (16 &&& 31)) >>> (16 &&& 31))), (7, .int (((G 17 ((G 20 264).toNatClampNeg)) >>> (16 &&& 31)) &&& 7)), (6, .int (((G 17 ((G 20 264).toNatClampNeg)) >>> (20 &&& 31)) &&& 7)), (5, .int (((G 17 ((G 20 264).toNatClampNeg)) >>> (24 &&& 31)) &&& 7)), (4, .int (f_Mo_kindOf G (G 17 ((G 20 264).toNatClampNeg)))), (3, .int (G 17 ((G 20 264).toNatClampNeg))), (0, .ref (ad 16)), (1, .ref (ad 20)), (2, .int p2)]) hx hb d_Mo_advance_287 hl (by decide) rfl (fun ls hl => ?_)
                  refine lv_aload_n hx hb d_Mo_advance_289 rfl (lv_at hl 9 rfl) ?_
                  refine lv_sipush (v := 265) hx hb d_Mo_advance_290 (by decide) ?_
                  refine lv_dup2_11 hx hb d_Mo_advance_293 rfl rfl ?_
                  refine ga_20 (x := (G 20 265)) hC hB (by decide) rfl d_Mo_advance_294 ?_
                  refine lv_iload hx hb d_Mo_advance_295 (lv_at hl 6 rfl) ?_
                  refine lv_bipush (v := 8) hx hb d_Mo_advance_297 (by decide) ?_
                  refine lv_icmp_ne (tgt := 306) hx hb d_Mo_advance_299 (by decide) (fun c26 => ?_) (fun c26 => ?_)
                  · have hf := hf.trans (if_neg c26)
                    have hok := hok.2 c26
                    refine lv_iconst (v := 0) hx hb d_Mo_advance_306 (by decide) ?_
                    refine lv_iadd hx hb d_Mo_advance_307 ?_
                    refine gs_20 hC hB (by decide) d_Mo_advance_308 (fun H locs hB => ?_)
                    refine lv_aload_n hx hb d_Mo_advance_309 rfl (lv_at hl 9 rfl) ?_
                    refine lv_iload hx hb d_Mo_advance_310 (lv_at hl 5 rfl) ?_
                    refine lv_iload hx hb d_Mo_advance_312 (lv_at hl 0 rfl) ?_
                    refine gs_20 hC hB hok.1 d_Mo_advance_314 (fun H locs hB => ?_)
                    have hok := hok.2
                    refine lv_aload_n hx hb d_Mo_advance_315 rfl (lv_at hl 8 rfl) ?_
                    refine lv_iload hx hb d_Mo_advance_316 (lv_at hl 5 rfl) ?_
                    refine gp_16_14 hC hB fl_Mo_72 d_Mo_advance_318 (fun H locs hB => ?_)
                    refine lv_aload_n hx hb d_Mo_advance_321 rfl (lv_at hl 9 rfl) ?_
                    refine lv_sipush (v := 264) hx hb d_Mo_advance_322 (by decide) ?_
                    refine lv_iload hx hb d_Mo_advance_325 (lv_at hl 1 rfl) ?_
                    refine gs_20 hC hB (by decide) d_Mo_advance_327 (fun H locs hB => ?_)
                    refine lv_iconst (v := 1) hx hb d_Mo_advance_328 (by decide) ?_
                    exact g_zret hC hB hr hlk (by decide) (by decide) (by decide) (by rw [hf]) (by rw [hf]) d_Mo_advance_329
                  · have hf := hf.trans (if_pos c26)
                    have hok := hok.1 c26
                    refine lv_iconst (v := 1) hx hb d_Mo_advance_302 (by decide) ?_
                    refine lv_goto (tgt := 307) hx hb d_Mo_advance_303 (by decide) ?_
                    refine lv_iadd hx hb d_Mo_advance_307 ?_
                    refine gs_20 hC hB (by decide) d_Mo_advance_308 (fun H locs hB => ?_)
                    refine lv_aload_n hx hb d_Mo_advance_309 rfl (lv_at hl 9 rfl) ?_
                    refine lv_iload hx hb d_Mo_advance_310 (lv_at hl 5 rfl) ?_
                    refine lv_iload hx hb d_Mo_advance_312 (lv_at hl 0 rfl) ?_
                    refine gs_20 hC hB hok.1 d_Mo_advance_314 (fun H locs hB => ?_)
                    have hok := hok.2
                    refine lv_aload_n hx hb d_Mo_advance_315 rfl (lv_at hl 8 rfl) ?_
                    refine lv_iload hx hb d_Mo_advance_316 (lv_at hl 5 rfl) ?_
                    refine gp_16_14 hC hB fl_Mo_72 d_Mo_advance_318 (fun H locs hB => ?_)
                    refine lv_aload_n hx hb d_Mo_advance_321 rfl (lv_at hl 9 rfl) ?_
                    refine lv_sipush (v := 264) hx hb d_Mo_advance_322 (by decide) ?_
                    refine lv_iload hx hb d_Mo_advance_325 (lv_at hl 1 rfl) ?_
                    refine gs_20 hC hB (by decide) d_Mo_advance_327 (fun H locs hB => ?_)
                    refine lv_iconst (v := 1) hx hb d_Mo_advance_328 (by decide) ?_
                    exact g_zret hC hB hr hlk (by decide) (by decide) (by decide) (by rw [hf]) (by rw [hf]) d_Mo_advance_329
              · have hf := hf.trans (if_pos c21)
                have hok := hok.1 c21
                refine lv_aload_n hx hb d_Mo_advance_196 rfl (lv_at hl 7 rfl) ?_
                refine lv_bipush (v := 8) hx hb d_Mo_advance_197 (by decide) ?_
                refine lv_aload_n hx hb d_Mo_advance_199 rfl (lv_at hl 8 rfl) ?_
                refine lv_iload hx hb d_Mo_advance_200 (lv_at hl 3 rfl) ?_
                refine ga_20 (x := (G 20 ((((G 17 ((G 20 264).toNatClampNeg)) >>> (20 &&& 31)) &&& 7).toNatClampNeg))) hC hB hok.1 rfl d_Mo_advance_202 ?_
                have hok := hok.2
                refine lv_iload hx hb d_Mo_advance_203 (lv_at hl 1 rfl) ?_
                refine lv_iadd hx hb d_Mo_advance_205 ?_
                refine lv_sipush (v := 255) hx hb d_Mo_advance_206 (by decide) ?_
                refine lv_iand hx hb d_Mo_advance_209 ?_
                refine lv_iadd hx hb d_Mo_advance_210 ?_
                refine gp_16_14 hC hB fl_Mo_72 d_Mo_advance_211 (fun H locs hB => ?_)
                refine lv_aload_n hx hb d_Mo_advance_214 rfl (lv_at hl 8 rfl) ?_
                refine lv_aload_n hx hb d_Mo_advance_215 rfl (lv_at hl 7 rfl) ?_
                refine gg_16_14 (x := 8 + (((G 20 ((((G 17 ((G 20 264).toNatClampNeg)) >>> (20 &&& 31)) &&& 7).toNatClampNeg)) + (((G 17 ((G 20 264).toNatClampNeg)) <<< (16 &&& 31)) >>> (16 &&& 31))) &&& 255)) hC hB rfl fl_Mo_72 d_Mo_advance_216 ?_
                refine lv_aload_n hx hb d_Mo_advance_219 rfl (lv_at hl 8 rfl) ?_
                refine lv_iload hx hb d_Mo_advance_220 (lv_at hl 4 rfl) ?_
                refine ga_20 (x := (G 20 ((((G 17 ((G 20 264).toNatClampNeg)) >>> (24 &&& 31)) &&& 7).toNatClampNeg))) hC hB hok.1 rfl d_Mo_advance_222 ?_
                have hok := hok.2
                refine gs_20 hC hB hok.1 d_Mo_advance_223 (fun H locs hB => ?_)
                have hok := hok.2
                refine lv_goto (tgt := 321) hx hb d_Mo_advance_224 (by decide) ?_
                refine lv_aload_n hx hb d_Mo_advance_321 rfl (lv_at hl 8 rfl) ?_
                refine lv_sipush (v := 264) hx hb d_Mo_advance_322 (by decide) ?_
                refine lv_iload hx hb d_Mo_advance_325 (lv_at hl 0 rfl) ?_
                refine gs_20 hC hB (by decide) d_Mo_advance_327 (fun H locs hB => ?_)
                refine lv_iconst (v := 1) hx hb d_Mo_advance_328 (by decide) ?_
                exact g_zret hC hB hr hlk (by decide) (by decide) (by decide) (by rw [hf]) (by rw [hf]) d_Mo_advance_329
            · have hf := hf.trans (if_pos c20)
              have hok := hok.1 c20
              refine lv_aload_n hx hb d_Mo_advance_159 rfl (lv_at hl 8 rfl) ?_
              refine lv_sipush (v := 266) hx hb d_Mo_advance_160 (by decide) ?_
              refine lv_dup2_11 hx hb d_Mo_advance_163 rfl rfl ?_
              refine ga_20 (x := (G 20 266)) hC hB (by decide) rfl d_Mo_advance_164 ?_
              refine lv_iconst (v := 1) hx hb d_Mo_advance_165 (by decide) ?_
              refine lv_iadd hx hb d_Mo_advance_166 ?_
              refine gs_20 hC hB (by decide) d_Mo_advance_167 (fun H locs hB => ?_)
              refine lv_aload_n hx hb d_Mo_advance_168 rfl (lv_at hl 8 rfl) ?_
              refine lv_sipush (v := 267) hx hb d_Mo_advance_169 (by decide) ?_
              refine lv_bipush (v := 31) hx hb d_Mo_advance_172 (by decide) ?_
              refine lv_aload_n hx hb d_Mo_advance_174 rfl (lv_at hl 8 rfl) ?_
              refine lv_sipush (v := 267) hx hb d_Mo_advance_175 (by decide) ?_
              refine ga_20 (x := (G 20 267)) hC hB (by decide) rfl d_Mo_advance_178 ?_
              refine lv_imul hx hb d_Mo_advance_179 ?_
              refine lv_aload_n hx hb d_Mo_advance_180 rfl (lv_at hl 8 rfl) ?_
              refine lv_iload hx hb d_Mo_advance_181 (lv_at hl 4 rfl) ?_
              refine ga_20 (x := ((g_up (g_up G 16 14 (-1)) 20 266 ((G 20 266) + 1)) 20 ((((G 17 ((G 20 264).toNatClampNeg)) >>> (24 &&& 31)) &&& 7).toNatClampNeg))) hC hB hok.1 rfl d_Mo_advance_183 ?_
              have hok := hok.2
              refine lv_iadd hx hb d_Mo_advance_184 ?_
              refine gs_20 hC hB (by decide) d_Mo_advance_185 (fun H locs hB => ?_)
              refine lv_goto (tgt := 321) hx hb d_Mo_advance_186 (by decide) ?_
              refine lv_aload_n hx hb d_Mo_advance_321 rfl (lv_at hl 8 rfl) ?_
              refine lv_sipush (v := 264) hx hb d_Mo_advance_322 (by decide) ?_
              refine lv_iload hx hb d_Mo_advance_325 (lv_at hl 0 rfl) ?_
              refine gs_20 hC hB (by decide) d_Mo_advance_327 (fun H locs hB => ?_)
              refine lv_iconst (v := 1) hx hb d_Mo_advance_328 (by decide) ?_
              exact g_zret hC hB hr hlk (by decide) (by decide) (by decide) (by rw [hf]) (by rw [hf]) d_Mo_advance_329
          · have hf := hf.trans (if_pos c19)
            have hok := hok.1 c19
            refine lv_aload_n hx hb d_Mo_advance_124 rfl (lv_at hl 8 rfl) ?_
            refine lv_iload hx hb d_Mo_advance_125 (lv_at hl 4 rfl) ?_
            refine ga_20 (x := (G 20 ((((G 17 ((G 20 264).toNatClampNeg)) >>> (24 &&& 31)) &&& 7).toNatClampNeg))) hC hB hok.1 rfl d_Mo_advance_127 ?_
            have hok := hok.2
            refine lv_if_eq (tgt := 145) hx hb d_Mo_advance_128 (by decide) (fun c27 => ?_) (fun c27 => ?_)
            · have hf := hf.trans (if_pos c27)
              refine lv_iload hx hb d_Mo_advance_145 (lv_at hl 0 rfl) ?_
              refine lv_istore (lv' := [(9, .int (((G 20 264) + 1) &&& 63)), (8, .int (((G 17 ((G 20 264).toNatClampNeg)) <<< (16 &&& 31)) >>> (16 &&& 31))), (7, .int (((G 17 ((G 20 264).toNatClampNeg)) >>> (16 &&& 31)) &&& 7)), (6, .int (((G 17 ((G 20 264).toNatClampNeg)) >>> (20 &&& 31)) &&& 7)), (5, .int (((G 17 ((G 20 264).toNatClampNeg)) >>> (24 &&& 31)) &&& 7)), (4, .int (f_Mo_kindOf G (G 17 ((G 20 264).toNatClampNeg)))), (3, .int (G 17 ((G 20 264).toNatClampNeg))), (0, .ref (ad 16)), (1, .ref (ad 20)), (2, .int p2)]) hx hb d_Mo_advance_147 hl (by decide) rfl (fun ls hl => ?_)
              refine lv_goto (tgt := 321) hx hb d_Mo_advance_149 (by decide) ?_
              refine lv_aload_n hx hb d_Mo_advance_321 rfl (lv_at hl 8 rfl) ?_
              refine lv_sipush (v := 264) hx hb d_Mo_advance_322 (by decide) ?_
              refine lv_iload hx hb d_Mo_advance_325 (lv_at hl 0 rfl) ?_
              refine gs_20 hC hB (by decide) d_Mo_advance_327 (fun H locs hB => ?_)
              refine lv_iconst (v := 1) hx hb d_Mo_advance_328 (by decide) ?_
              exact g_zret hC hB hr hlk (by decide) (by decide) (by decide) (by rw [hf]) (by rw [hf]) d_Mo_advance_329
            · have hf := hf.trans (if_neg c27)
              refine lv_aload_n hx hb d_Mo_advance_131 rfl (lv_at hl 8 rfl) ?_
              refine lv_sipush (v := 264) hx hb d_Mo_advance_132 (by decide) ?_
              refine ga_20 (x := (G 20 264)) hC hB (by decide) rfl d_Mo_advance_135 ?_
              refine lv_iload hx hb d_Mo_advance_136 (lv_at hl 1 rfl) ?_
              refine lv_iadd hx hb d_Mo_advance_138 ?_
              refine lv_bipush (v := 63) hx hb d_Mo_advance_139 (by decide) ?_
              refine lv_iand hx hb d_Mo_advance_141 ?_
              refine lv_goto (tgt := 147) hx hb d_Mo_advance_142 (by decide) ?_
              refine lv_istore (lv' := [(9, .int (((G 20 264) + (((G 17 ((G 20 264).toNatClampNeg)) <<< (16 &&& 31)) >>> (16 &&& 31))) &&& 63)), (8, .int (((G 17 ((G 20 264).toNatClampNeg)) <<< (16 &&& 31)) >>> (16 &&& 31))), (7, .int (((G 17 ((G 20 264).toNatClampNeg)) >>> (16 &&& 31)) &&& 7)), (6, .int (((G 17 ((G 20 264).toNatClampNeg)) >>> (20 &&& 31)) &&& 7)), (5, .int (((G 17 ((G 20 264).toNatClampNeg)) >>> (24 &&& 31)) &&& 7)), (4, .int (f_Mo_kindOf G (G 17 ((G 20 264).toNatClampNeg)))), (3, .int (G 17 ((G 20 264).toNatClampNeg))), (0, .ref (ad 16)), (1, .ref (ad 20)), (2, .int p2)]) hx hb d_Mo_advance_147 hl (by decide) rfl (fun ls hl => ?_)
              refine lv_goto (tgt := 321) hx hb d_Mo_advance_149 (by decide) ?_
              refine lv_aload_n hx hb d_Mo_advance_321 rfl (lv_at hl 8 rfl) ?_
              refine lv_sipush (v := 264) hx hb d_Mo_advance_322 (by decide) ?_
              refine lv_iload hx hb d_Mo_advance_325 (lv_at hl 0 rfl) ?_
              refine gs_20 hC hB (by decide) d_Mo_advance_327 (fun H locs hB => ?_)
              refine lv_iconst (v := 1) hx hb d_Mo_advance_328 (by decide) ?_
              exact g_zret hC hB hr hlk (by decide) (by decide) (by decide) (by rw [hf]) (by rw [hf]) d_Mo_advance_329
        · have hf := hf.trans (if_neg c18)
          have hok := hok.2 c18
          refine lv_aload_n hx hb d_Mo_advance_88 rfl (lv_at hl 7 rfl) ?_
          refine lv_sipush (v := 268) hx hb d_Mo_advance_89 (by decide) ?_
          refine lv_iload hx hb d_Mo_advance_92 (lv_at hl 4 rfl) ?_
          refine lv_if_ne (tgt := 101) hx hb d_Mo_advance_94 (by decide) (fun c28 => ?_) (fun c28 => ?_)
          · have hf := hf.trans (if_neg c28)
            refine lv_iconst (v := 2) hx hb d_Mo_advance_101 (by decide) ?_
            refine gs_20 hC hB (by decide) d_Mo_advance_102 (fun H locs hB => ?_)
            refine lv_iconst (v := 1) hx hb d_Mo_advance_103 (by decide) ?_
            exact g_zret hC hB hr hlk (by decide) (by decide) (by decide) (by rw [hf]) (by rw [hf]) d_Mo_advance_104
          · have hf := hf.trans (if_pos c28)
            refine lv_iconst (v := 1) hx hb d_Mo_advance_97 (by decide) ?_
            refine lv_goto (tgt := 102) hx hb d_Mo_advance_98 (by decide) ?_
            refine gs_20 hC hB (by decide) d_Mo_advance_102 (fun H locs hB => ?_)
            refine lv_iconst (v := 1) hx hb d_Mo_advance_103 (by decide) ?_
            exact g_zret hC hB hr hlk (by decide) (by decide) (by decide) (by rw [hf]) (by rw [hf]) d_Mo_advance_104
    · have hf := hf.trans (if_neg c15)
      have hok := hok.2 c15
      refine lv_iconst (v := 0) hx hb d_Mo_advance_74 (by decide) ?_
      exact g_zret hC hB hr hlk (by decide) (by decide) (by decide) (by rw [hf]) (by rw [hf]) d_Mo_advance_75
end
