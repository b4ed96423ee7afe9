/-! Part A of the kit's skeleton, as given: the tables' words -/
/-- a private method of a class that the tables say can be made, by its rows of tables_1 -/
def lw_okq (q : MethodName × Nat) : Prop := (q.1.cls ≠ "java/lang/invoke/MethodHandle" ∧ q.1.cls ≠ "java/lang/invoke/VarHandle") ∧ Cond.instantiable q.1.cls q.2 ∈ tables_1 ∧ Cond.privateMethod q.1 ∈ tables_1 ∧ Cond.instanceMethod q.1 ∈ tables_1
theorem lw_p0 : lw_okq (⟨"BackSteps$Rows", "undo", "(ILBackSteps$Machine;)V"⟩, 13) := ⟨⟨by decide +kernel, by decide +kernel⟩, List.mem_of_getElem? (i := 81) (by decide +kernel), List.mem_of_getElem? (i := 174) (by decide +kernel), List.mem_of_getElem? (i := 175) (by decide +kernel)⟩
theorem lw_p1 : lw_okq (⟨"BackSteps$Machine", "rememberBefore", "()V"⟩, 12) := ⟨⟨by decide +kernel, by decide +kernel⟩, List.mem_of_getElem? (i := 22) (by decide +kernel), List.mem_of_getElem? (i := 186) (by decide +kernel), List.mem_of_getElem? (i := 187) (by decide +kernel)⟩
theorem lw_p2 : lw_okq (⟨"BackSteps$Machine", "write", "(II)V"⟩, 12) := ⟨⟨by decide +kernel, by decide +kernel⟩, List.mem_of_getElem? (i := 22) (by decide +kernel), List.mem_of_getElem? (i := 193) (by decide +kernel), List.mem_of_getElem? (i := 194) (by decide +kernel)⟩
theorem lw_p3 : lw_okq (⟨"BackSteps$Machine", "moveNumbers", "(II)V"⟩, 12) := ⟨⟨by decide +kernel, by decide +kernel⟩, List.mem_of_getElem? (i := 22) (by decide +kernel), List.mem_of_getElem? (i := 197) (by decide +kernel), List.mem_of_getElem? (i := 198) (by decide +kernel)⟩
theorem lw_p4 : lw_okq (⟨"BackSteps$Machine", "compute", "(II)V"⟩, 12) := ⟨⟨by decide +kernel, by decide +kernel⟩, List.mem_of_getElem? (i := 22) (by decide +kernel), List.mem_of_getElem? (i := 201) (by decide +kernel), List.mem_of_getElem? (i := 202) (by decide +kernel)⟩
theorem lw_p5 : lw_okq (⟨"BackSteps$Machine", "stop", "(I)V"⟩, 12) := ⟨⟨by decide +kernel, by decide +kernel⟩, List.mem_of_getElem? (i := 22) (by decide +kernel), List.mem_of_getElem? (i := 205) (by decide +kernel), List.mem_of_getElem? (i := 206) (by decide +kernel)⟩
theorem lw_p6 : lw_okq (⟨"BackSteps$Machine", "changedNumber", "()Z"⟩, 12) := ⟨⟨by decide +kernel, by decide +kernel⟩, List.mem_of_getElem? (i := 22) (by decide +kernel), List.mem_of_getElem? (i := 217) (by decide +kernel), List.mem_of_getElem? (i := 218) (by decide +kernel)⟩
theorem lw_p7 : lw_okq (⟨"BackSteps", "sameRestAt", "(I)Z"⟩, 7) := ⟨⟨by decide +kernel, by decide +kernel⟩, List.mem_of_getElem? (i := 14) (by decide +kernel), List.mem_of_getElem? (i := 221) (by decide +kernel), List.mem_of_getElem? (i := 222) (by decide +kernel)⟩
theorem lw_p8 : lw_okq (⟨"BackSteps", "restAt", "(II)I"⟩, 7) := ⟨⟨by decide +kernel, by decide +kernel⟩, List.mem_of_getElem? (i := 14) (by decide +kernel), List.mem_of_getElem? (i := 229) (by decide +kernel), List.mem_of_getElem? (i := 230) (by decide +kernel)⟩
theorem lw_p9 : lw_okq (⟨"BackSteps", "marksKept", "()I"⟩, 7) := ⟨⟨by decide +kernel, by decide +kernel⟩, List.mem_of_getElem? (i := 14) (by decide +kernel), List.mem_of_getElem? (i := 241) (by decide +kernel), List.mem_of_getElem? (i := 242) (by decide +kernel)⟩
theorem lw_p10 : lw_okq (⟨"BackSteps", "state", "()I"⟩, 7) := ⟨⟨by decide +kernel, by decide +kernel⟩, List.mem_of_getElem? (i := 14) (by decide +kernel), List.mem_of_getElem? (i := 248) (by decide +kernel), List.mem_of_getElem? (i := 249) (by decide +kernel)⟩
theorem lw_p11 : lw_okq (⟨"java/lang/Throwable", "fillInStackTrace", "(I)Ljava/lang/Throwable;"⟩, 6) := ⟨⟨by decide +kernel, by decide +kernel⟩, List.mem_of_getElem? (i := 302) (by decide +kernel), List.mem_of_getElem? (i := 300) (by decide +kernel), List.mem_of_getElem? (i := 301) (by decide +kernel)⟩
theorem lw_p12 : lw_okq (⟨"BackSteps", "checkNumber", "(I)V"⟩, 7) := ⟨⟨by decide +kernel, by decide +kernel⟩, List.mem_of_getElem? (i := 14) (by decide +kernel), List.mem_of_getElem? (i := 363) (by decide +kernel), List.mem_of_getElem? (i := 364) (by decide +kernel)⟩
theorem lw_p13 : lw_okq (⟨"BackSteps", "checkTime", "(I)V"⟩, 7) := ⟨⟨by decide +kernel, by decide +kernel⟩, List.mem_of_getElem? (i := 14) (by decide +kernel), List.mem_of_getElem? (i := 411) (by decide +kernel), List.mem_of_getElem? (i := 412) (by decide +kernel)⟩
theorem lw_p14 : lw_okq (⟨"BackSteps", "numberAt", "(II)I"⟩, 7) := ⟨⟨by decide +kernel, by decide +kernel⟩, List.mem_of_getElem? (i := 14) (by decide +kernel), List.mem_of_getElem? (i := 428) (by decide +kernel), List.mem_of_getElem? (i := 429) (by decide +kernel)⟩
theorem lw_p15 : lw_okq (⟨"BackStepsModel", "fail", "(I)I"⟩, 15) := ⟨⟨by decide +kernel, by decide +kernel⟩, List.mem_of_getElem? (i := 466) (by decide +kernel), List.mem_of_getElem? (i := 533) (by decide +kernel), List.mem_of_getElem? (i := 534) (by decide +kernel)⟩
def lw_privs_1 : List (MethodName × Nat) := [(⟨"BackSteps$Rows", "undo", "(ILBackSteps$Machine;)V"⟩, 13), (⟨"BackSteps$Machine", "rememberBefore", "()V"⟩, 12), (⟨"BackSteps$Machine", "write", "(II)V"⟩, 12), (⟨"BackSteps$Machine", "moveNumbers", "(II)V"⟩, 12), (⟨"BackSteps$Machine", "compute", "(II)V"⟩, 12), (⟨"BackSteps$Machine", "stop", "(I)V"⟩, 12), (⟨"BackSteps$Machine", "changedNumber", "()Z"⟩, 12), (⟨"BackSteps", "sameRestAt", "(I)Z"⟩, 7), (⟨"BackSteps", "restAt", "(II)I"⟩, 7), (⟨"BackSteps", "marksKept", "()I"⟩, 7), (⟨"BackSteps", "state", "()I"⟩, 7), (⟨"java/lang/Throwable", "fillInStackTrace", "(I)Ljava/lang/Throwable;"⟩, 6), (⟨"BackSteps", "checkNumber", "(I)V"⟩, 7), (⟨"BackSteps", "checkTime", "(I)V"⟩, 7), (⟨"BackSteps", "numberAt", "(II)I"⟩, 7), (⟨"BackStepsModel", "fail", "(I)I"⟩, 15)]
theorem lw_r1 : ∀ q ∈ lw_privs_1, lw_okq q := List.forall_mem_cons.mpr ⟨lw_p0, List.forall_mem_cons.mpr ⟨lw_p1, List.forall_mem_cons.mpr ⟨lw_p2, List.forall_mem_cons.mpr ⟨lw_p3, List.forall_mem_cons.mpr ⟨lw_p4, List.forall_mem_cons.mpr ⟨lw_p5, List.forall_mem_cons.mpr ⟨lw_p6, List.forall_mem_cons.mpr ⟨lw_p7, List.forall_mem_cons.mpr ⟨lw_p8, List.forall_mem_cons.mpr ⟨lw_p9, List.forall_mem_cons.mpr ⟨lw_p10, List.forall_mem_cons.mpr ⟨lw_p11, List.forall_mem_cons.mpr ⟨lw_p12, List.forall_mem_cons.mpr ⟨lw_p13, List.forall_mem_cons.mpr ⟨lw_p14, List.forall_mem_cons.mpr ⟨lw_p15, fun _ h => absurd h List.not_mem_nil⟩⟩⟩⟩⟩⟩⟩⟩⟩⟩⟩⟩⟩⟩⟩⟩
theorem lw_p16 : lw_okq (⟨"BackStepsModel", "stepOnce", "()Z"⟩, 15) := ⟨⟨by decide +kernel, by decide +kernel⟩, List.mem_of_getElem? (i := 466) (by decide +kernel), List.mem_of_getElem? (i := 549) (by decide +kernel), List.mem_of_getElem? (i := 550) (by decide +kernel)⟩
theorem lw_p17 : lw_okq (⟨"BackStepsModel", "save", "()V"⟩, 15) := ⟨⟨by decide +kernel, by decide +kernel⟩, List.mem_of_getElem? (i := 466) (by decide +kernel), List.mem_of_getElem? (i := 553) (by decide +kernel), List.mem_of_getElem? (i := 554) (by decide +kernel)⟩
theorem lw_p18 : lw_okq (⟨"BackStepsModel", "advance", "([II)Z"⟩, 15) := ⟨⟨by decide +kernel, by decide +kernel⟩, List.mem_of_getElem? (i := 466) (by decide +kernel), List.mem_of_getElem? (i := 560) (by decide +kernel), List.mem_of_getElem? (i := 561) (by decide +kernel)⟩
theorem lw_p19 : lw_okq (⟨"BackStepsModel", "costOf", "()I"⟩, 15) := ⟨⟨by decide +kernel, by decide +kernel⟩, List.mem_of_getElem? (i := 466) (by decide +kernel), List.mem_of_getElem? (i := 570) (by decide +kernel), List.mem_of_getElem? (i := 571) (by decide +kernel)⟩
theorem lw_p20 : lw_okq (⟨"BackStepsModel", "allCosts", "()I"⟩, 15) := ⟨⟨by decide +kernel, by decide +kernel⟩, List.mem_of_getElem? (i := 466) (by decide +kernel), List.mem_of_getElem? (i := 574) (by decide +kernel), List.mem_of_getElem? (i := 575) (by decide +kernel)⟩
theorem lw_p21 : lw_okq (⟨"BackStepsModel", "isKept", "(I)Z"⟩, 15) := ⟨⟨by decide +kernel, by decide +kernel⟩, List.mem_of_getElem? (i := 466) (by decide +kernel), List.mem_of_getElem? (i := 582) (by decide +kernel), List.mem_of_getElem? (i := 583) (by decide +kernel)⟩
theorem lw_p22 : lw_okq (⟨"BackStepsModel", "stateAt", "(II)I"⟩, 15) := ⟨⟨by decide +kernel, by decide +kernel⟩, List.mem_of_getElem? (i := 466) (by decide +kernel), List.mem_of_getElem? (i := 586) (by decide +kernel), List.mem_of_getElem? (i := 587) (by decide +kernel)⟩
theorem lw_p23 : lw_okq (⟨"BackStepsModel", "isSame", "(I)Z"⟩, 15) := ⟨⟨by decide +kernel, by decide +kernel⟩, List.mem_of_getElem? (i := 466) (by decide +kernel), List.mem_of_getElem? (i := 606) (by decide +kernel), List.mem_of_getElem? (i := 607) (by decide +kernel)⟩
theorem lw_p24 : lw_okq (⟨"BackStepsModel", "waits", "()Z"⟩, 15) := ⟨⟨by decide +kernel, by decide +kernel⟩, List.mem_of_getElem? (i := 466) (by decide +kernel), List.mem_of_getElem? (i := 618) (by decide +kernel), List.mem_of_getElem? (i := 619) (by decide +kernel)⟩
def lw_privs_2 : List (MethodName × Nat) := [(⟨"BackStepsModel", "stepOnce", "()Z"⟩, 15), (⟨"BackStepsModel", "save", "()V"⟩, 15), (⟨"BackStepsModel", "advance", "([II)Z"⟩, 15), (⟨"BackStepsModel", "costOf", "()I"⟩, 15), (⟨"BackStepsModel", "allCosts", "()I"⟩, 15), (⟨"BackStepsModel", "isKept", "(I)Z"⟩, 15), (⟨"BackStepsModel", "stateAt", "(II)I"⟩, 15), (⟨"BackStepsModel", "isSame", "(I)Z"⟩, 15), (⟨"BackStepsModel", "waits", "()Z"⟩, 15)]
theorem lw_r2 : ∀ q ∈ lw_privs_2, lw_okq q := List.forall_mem_cons.mpr ⟨lw_p16, List.forall_mem_cons.mpr ⟨lw_p17, List.forall_mem_cons.mpr ⟨lw_p18, List.forall_mem_cons.mpr ⟨lw_p19, List.forall_mem_cons.mpr ⟨lw_p20, List.forall_mem_cons.mpr ⟨lw_p21, List.forall_mem_cons.mpr ⟨lw_p22, List.forall_mem_cons.mpr ⟨lw_p23, List.forall_mem_cons.mpr ⟨lw_p24, fun _ h => absurd h List.not_mem_nil⟩⟩⟩⟩⟩⟩⟩⟩⟩
def lw_privs : List (MethodName × Nat) := lw_privs_1 ++ (lw_privs_2)
def lw_tbl : List Cond := k2_sels lw_privs ++ tables_1
theorem lw_privs_ok : ∀ q ∈ lw_privs, lw_okq q := by
  show ∀ q ∈ lw_privs_1 ++ (lw_privs_2), lw_okq q
  exact List.forall_mem_append.mpr ⟨lw_r1, lw_r2⟩

/-- the tables' words that stay true under all that a call resolves -/
def gtb : List Cond := lw_tbl.filter goodWord
theorem g_mem {w : Cond} (i : Nat) (h : tables_1[i]? = some w) (hg : goodWord w = true) : w ∈ gtb := List.mem_filter.mpr ⟨List.mem_append_right _ (List.mem_of_getElem? h), hg⟩
theorem g_memS {w : Cond} (i : Nat) (h : (k2_sels lw_privs)[i]? = some w) (hg : goodWord w = true) : w ∈ gtb := List.mem_filter.mpr ⟨List.mem_append_left _ (List.mem_of_getElem? h), hg⟩
theorem g_memL {w : Cond} (i : Nat) (h : tables_1[i]? = some w) : w ∈ lw_tbl := List.mem_append_right _ (List.mem_of_getElem? h)
def R_Ma : String := "BackSteps$Machine"
def F_Ma : u_T := fun k => match k with
  | 0 => ("BackSteps$Machine", "numbers", "[I", true)
  | 1 => ("BackSteps$Machine", "place", "I", false)
  | 2 => ("BackSteps$Machine", "taken", "I", false)
  | 3 => ("BackSteps$Machine", "outputs", "I", false)
  | 4 => ("BackSteps$Machine", "sum", "I", false)
  | 5 => ("BackSteps$Machine", "halted", "I", false)
  | 6 => ("BackSteps$Machine", "written", "I", false)
  | 7 => ("BackSteps$Machine", "numberBefore", "I", false)
  | 8 => ("BackSteps$Machine", "placeBefore", "I", false)
  | 9 => ("BackSteps$Machine", "takenBefore", "I", false)
  | 10 => ("BackSteps$Machine", "outputsBefore", "I", false)
  | _ => ("BackSteps$Machine", "sumBefore", "I", false)
def t_Ma : Nat → FieldType := fun k => match k with
  | 0 => .array .int
  | 1 => .int
  | 2 => .int
  | 3 => .int
  | 4 => .int
  | 5 => .int
  | 6 => .int
  | 7 => .int
  | 8 => .int
  | 9 => .int
  | 10 => .int
  | _ => .int
abbrev w_Ma : List Cond := u_ws R_Ma F_Ma 12
theorem n_Ma : ∀ a, a < 12 → ∀ b, b < 12 → a ≠ b → (F_Ma a).2.1 ≠ (F_Ma b).2.1 := by decide +kernel
theorem t_Ma_ok : ∀ k, k < 12 → parseFieldDescriptor (F_Ma k).2.2.1 = some (t_Ma k) := by decide +kernel
theorem in_Ma : ∀ w ∈ w_Ma, w ∈ gtb := by decide +kernel
def R_Ro : String := "BackSteps$Rows"
def F_Ro : u_T := fun k => match k with
  | 0 => ("BackSteps$Rows", "room", "I", true)
  | 1 => ("BackSteps$Rows", "now", "I", false)
  | 2 => ("BackSteps$Rows", "oldest", "I", false)
  | 3 => ("BackSteps$Rows", "spent", "I", false)
  | 4 => ("BackSteps$Rows", "gone", "I", false)
  | 5 => ("BackSteps$Rows", "costs", "[I", true)
  | 6 => ("BackSteps$Rows", "written", "[I", true)
  | 7 => ("BackSteps$Rows", "numbersBefore", "[I", true)
  | 8 => ("BackSteps$Rows", "numbersBehind", "[I", true)
  | 9 => ("BackSteps$Rows", "places", "[I", true)
  | 10 => ("BackSteps$Rows", "takens", "[I", true)
  | 11 => ("BackSteps$Rows", "outputs", "[I", true)
  | _ => ("BackSteps$Rows", "sums", "[I", true)
def t_Ro : Nat → FieldType := fun k => match k with
  | 0 => .int
  | 1 => .int
  | 2 => .int
  | 3 => .int
  | 4 => .int
  | 5 => .array .int
  | 6 => .array .int
  | 7 => .array .int
  | 8 => .array .int
  | 9 => .array .int
  | 10 => .array .int
  | 11 => .array .int
  | _ => .array .int
abbrev w_Ro : List Cond := u_ws R_Ro F_Ro 13
theorem n_Ro : ∀ a, a < 13 → ∀ b, b < 13 → a ≠ b → (F_Ro a).2.1 ≠ (F_Ro b).2.1 := by decide +kernel
theorem t_Ro_ok : ∀ k, k < 13 → parseFieldDescriptor (F_Ro k).2.2.1 = some (t_Ro k) := by decide +kernel
theorem in_Ro : ∀ w ∈ w_Ro, w ∈ gtb := by decide +kernel
def R_BS : String := "BackSteps"
def F_BS : u_T := fun k => match k with
  | 0 => ("BackSteps", "markDistance", "I", true)
  | 1 => ("BackSteps", "program", "[I", true)
  | 2 => ("BackSteps", "inputs", "[I", true)
  | 3 => ("BackSteps", "given", "I", false)
  | 4 => ("BackSteps", "machine", "LBackSteps$Machine;", true)
  | 5 => ("BackSteps", "again", "LBackSteps$Machine;", true)
  | _ => ("BackSteps", "rows", "LBackSteps$Rows;", true)
def t_BS : Nat → FieldType := fun k => match k with
  | 0 => .int
  | 1 => .array .int
  | 2 => .array .int
  | 3 => .int
  | 4 => .object "BackSteps$Machine"
  | 5 => .object "BackSteps$Machine"
  | _ => .object "BackSteps$Rows"
abbrev w_BS : List Cond := u_ws R_BS F_BS 7
theorem n_BS : ∀ a, a < 7 → ∀ b, b < 7 → a ≠ b → (F_BS a).2.1 ≠ (F_BS b).2.1 := by decide +kernel
theorem t_BS_ok : ∀ k, k < 7 → parseFieldDescriptor (F_BS k).2.2.1 = some (t_BS k) := by decide +kernel
theorem in_BS : ∀ w ∈ w_BS, w ∈ gtb := by decide +kernel
def R_Mo : String := "BackStepsModel"
def F_Mo : u_T := fun k => match k with
  | 0 => ("BackStepsModel", "thrown", "I", false)
  | 1 => ("BackStepsModel", "room", "I", true)
  | 2 => ("BackStepsModel", "every", "I", true)
  | 3 => ("BackStepsModel", "program", "[I", true)
  | 4 => ("BackStepsModel", "inputs", "I", false)
  | 5 => ("BackStepsModel", "input", "[I", true)
  | 6 => ("BackStepsModel", "now", "[I", true)
  | 7 => ("BackStepsModel", "other", "[I", true)
  | 8 => ("BackStepsModel", "states", "[I", true)
  | 9 => ("BackStepsModel", "costs", "[I", true)
  | 10 => ("BackStepsModel", "writes", "[I", true)
  | 11 => ("BackStepsModel", "time", "I", false)
  | 12 => ("BackStepsModel", "oldest", "I", false)
  | 13 => ("BackStepsModel", "went", "I", false)
  | _ => ("BackStepsModel", "written", "I", false)
def t_Mo : Nat → FieldType := fun k => match k with
  | 0 => .int
  | 1 => .int
  | 2 => .int
  | 3 => .array .int
  | 4 => .int
  | 5 => .array .int
  | 6 => .array .int
  | 7 => .array .int
  | 8 => .array .int
  | 9 => .array .int
  | 10 => .array .int
  | 11 => .int
  | 12 => .int
  | 13 => .int
  | _ => .int
abbrev w_Mo : List Cond := u_ws R_Mo F_Mo 15
theorem n_Mo : ∀ a, a < 15 → ∀ b, b < 15 → a ≠ b → (F_Mo a).2.1 ≠ (F_Mo b).2.1 := by decide +kernel
theorem t_Mo_ok : ∀ k, k < 15 → parseFieldDescriptor (F_Mo k).2.2.1 = some (t_Mo k) := by decide +kernel
theorem in_Mo : ∀ w ∈ w_Mo, w ∈ gtb := by decide +kernel
def R_La : String := "BackStepsLaw"
def R_Mt : String := "java/lang/Math"
abbrev b_BS_init : ByteArray := prog_1_method_1_code
def y_BS_init : MethodName := ⟨R_BS, "<init>", "(II)V"⟩
abbrev b_BS_program : ByteArray := prog_1_method_2_code
def y_BS_program : MethodName := ⟨R_BS, "program", "(II)I"⟩
abbrev b_BS_input : ByteArray := prog_1_method_3_code
def y_BS_input : MethodName := ⟨R_BS, "input", "(I)I"⟩
abbrev b_BS_poke : ByteArray := prog_1_method_4_code
def y_BS_poke : MethodName := ⟨R_BS, "poke", "(II)I"⟩
abbrev b_BS_step : ByteArray := prog_1_method_5_code
def y_BS_step : MethodName := ⟨R_BS, "step", "(I)I"⟩
abbrev b_BS_back : ByteArray := prog_1_method_6_code
def y_BS_back : MethodName := ⟨R_BS, "back", "(I)I"⟩
abbrev b_BS_look : ByteArray := prog_1_method_7_code
def y_BS_look : MethodName := ⟨R_BS, "look", "(II)I"⟩
abbrev b_BS_wrote : ByteArray := prog_1_method_8_code
def y_BS_wrote : MethodName := ⟨R_BS, "wrote", "(I)I"⟩
abbrev b_BS_when : ByteArray := prog_1_method_9_code
def y_BS_when : MethodName := ⟨R_BS, "when", "(III)I"⟩
abbrev b_BS_replay : ByteArray := prog_1_method_10_code
def y_BS_replay : MethodName := ⟨R_BS, "replay", "()I"⟩
abbrev b_BS_cost : ByteArray := prog_1_method_11_code
def y_BS_cost : MethodName := ⟨R_BS, "cost", "(I)I"⟩
abbrev b_BS_count : ByteArray := prog_1_method_12_code
def y_BS_count : MethodName := ⟨R_BS, "count", "(I)I"⟩
abbrev b_BS_checkNumber : ByteArray := prog_1_method_13_code
def y_BS_checkNumber : MethodName := ⟨R_BS, "checkNumber", "(I)V"⟩
abbrev b_BS_checkTime : ByteArray := prog_1_method_14_code
def y_BS_checkTime : MethodName := ⟨R_BS, "checkTime", "(I)V"⟩
abbrev b_BS_numberAt : ByteArray := prog_1_method_15_code
def y_BS_numberAt : MethodName := ⟨R_BS, "numberAt", "(II)I"⟩
abbrev b_BS_restAt : ByteArray := prog_1_method_16_code
def y_BS_restAt : MethodName := ⟨R_BS, "restAt", "(II)I"⟩
abbrev b_BS_sameRestAt : ByteArray := prog_1_method_17_code
def y_BS_sameRestAt : MethodName := ⟨R_BS, "sameRestAt", "(I)Z"⟩
abbrev b_BS_marksKept : ByteArray := prog_1_method_18_code
def y_BS_marksKept : MethodName := ⟨R_BS, "marksKept", "()I"⟩
abbrev b_BS_state : ByteArray := prog_1_method_19_code
def y_BS_state : MethodName := ⟨R_BS, "state", "()I"⟩
abbrev b_Mo_init : ByteArray := prog_5_method_1_code
def y_Mo_init : MethodName := ⟨R_Mo, "<init>", "(II)V"⟩
abbrev b_Mo_modulo : ByteArray := prog_5_method_2_code
def y_Mo_modulo : MethodName := ⟨R_Mo, "modulo", "(II)I"⟩
abbrev b_Mo_thrown : ByteArray := prog_5_method_3_code
def y_Mo_thrown : MethodName := ⟨R_Mo, "thrown", "()I"⟩
abbrev b_Mo_fail : ByteArray := prog_5_method_4_code
def y_Mo_fail : MethodName := ⟨R_Mo, "fail", "(I)I"⟩
abbrev b_Mo_within : ByteArray := prog_5_method_5_code
def y_Mo_within : MethodName := ⟨R_Mo, "within", "(III)Z"⟩
abbrev b_Mo_slot : ByteArray := prog_5_method_6_code
def y_Mo_slot : MethodName := ⟨R_Mo, "slot", "(I)I"⟩
abbrev b_Mo_program : ByteArray := prog_5_method_7_code
def y_Mo_program : MethodName := ⟨R_Mo, "program", "(II)I"⟩
abbrev b_Mo_input : ByteArray := prog_5_method_8_code
def y_Mo_input : MethodName := ⟨R_Mo, "input", "(I)I"⟩
abbrev b_Mo_save : ByteArray := prog_5_method_9_code
def y_Mo_save : MethodName := ⟨R_Mo, "save", "()V"⟩
abbrev b_Mo_stateAt : ByteArray := prog_5_method_10_code
def y_Mo_stateAt : MethodName := ⟨R_Mo, "stateAt", "(II)I"⟩
abbrev b_Mo_poke : ByteArray := prog_5_method_11_code
def y_Mo_poke : MethodName := ⟨R_Mo, "poke", "(II)I"⟩
abbrev b_Mo_kindOf : ByteArray := prog_5_method_12_code
def y_Mo_kindOf : MethodName := ⟨R_Mo, "kindOf", "(I)I"⟩
abbrev b_Mo_result : ByteArray := prog_5_method_13_code
def y_Mo_result : MethodName := ⟨R_Mo, "result", "(IIII)I"⟩
abbrev b_Mo_advance : ByteArray := prog_5_method_14_code
def y_Mo_advance : MethodName := ⟨R_Mo, "advance", "([II)Z"⟩
abbrev b_Mo_costOf : ByteArray := prog_5_method_15_code
def y_Mo_costOf : MethodName := ⟨R_Mo, "costOf", "()I"⟩
abbrev b_Mo_allCosts : ByteArray := prog_5_method_16_code
def y_Mo_allCosts : MethodName := ⟨R_Mo, "allCosts", "()I"⟩
abbrev b_Mo_stepOnce : ByteArray := prog_5_method_17_code
def y_Mo_stepOnce : MethodName := ⟨R_Mo, "stepOnce", "()Z"⟩
abbrev b_Mo_step : ByteArray := prog_5_method_18_code
def y_Mo_step : MethodName := ⟨R_Mo, "step", "(I)I"⟩
abbrev b_Mo_isKept : ByteArray := prog_5_method_19_code
def y_Mo_isKept : MethodName := ⟨R_Mo, "isKept", "(I)Z"⟩
abbrev b_Mo_back : ByteArray := prog_5_method_20_code
def y_Mo_back : MethodName := ⟨R_Mo, "back", "(I)I"⟩
abbrev b_Mo_look : ByteArray := prog_5_method_21_code
def y_Mo_look : MethodName := ⟨R_Mo, "look", "(II)I"⟩
abbrev b_Mo_wrote : ByteArray := prog_5_method_22_code
def y_Mo_wrote : MethodName := ⟨R_Mo, "wrote", "(I)I"⟩
abbrev b_Mo_when : ByteArray := prog_5_method_23_code
def y_Mo_when : MethodName := ⟨R_Mo, "when", "(III)I"⟩
abbrev b_Mo_isSame : ByteArray := prog_5_method_24_code
def y_Mo_isSame : MethodName := ⟨R_Mo, "isSame", "(I)Z"⟩
abbrev b_Mo_replay : ByteArray := prog_5_method_25_code
def y_Mo_replay : MethodName := ⟨R_Mo, "replay", "()I"⟩
abbrev b_Mo_cost : ByteArray := prog_5_method_26_code
def y_Mo_cost : MethodName := ⟨R_Mo, "cost", "(I)I"⟩
abbrev b_Mo_waits : ByteArray := prog_5_method_27_code
def y_Mo_waits : MethodName := ⟨R_Mo, "waits", "()Z"⟩
abbrev b_Mo_count : ByteArray := prog_5_method_28_code
def y_Mo_count : MethodName := ⟨R_Mo, "count", "(I)I"⟩
abbrev b_Ma_init : ByteArray := prog_2_method_1_code
def y_Ma_init : MethodName := ⟨R_Ma, "<init>", "()V"⟩
abbrev b_Ma_copyFrom : ByteArray := prog_2_method_2_code
def y_Ma_copyFrom : MethodName := ⟨R_Ma, "copyFrom", "(LBackSteps$Machine;)V"⟩
abbrev b_Ma_rest : ByteArray := prog_2_method_3_code
def y_Ma_rest : MethodName := ⟨R_Ma, "rest", "(I)I"⟩
abbrev b_Ma_wouldWait : ByteArray := prog_2_method_4_code
def y_Ma_wouldWait : MethodName := ⟨R_Ma, "wouldWait", "([II)Z"⟩
abbrev b_Ma_advance : ByteArray := prog_2_method_5_code
def y_Ma_advance : MethodName := ⟨R_Ma, "advance", "([I[II)Z"⟩
abbrev b_Ma_rememberBefore : ByteArray := prog_2_method_6_code
def y_Ma_rememberBefore : MethodName := ⟨R_Ma, "rememberBefore", "()V"⟩
abbrev b_Ma_moveNumbers : ByteArray := prog_2_method_7_code
def y_Ma_moveNumbers : MethodName := ⟨R_Ma, "moveNumbers", "(II)V"⟩
abbrev b_Ma_compute : ByteArray := prog_2_method_8_code
def y_Ma_compute : MethodName := ⟨R_Ma, "compute", "(II)V"⟩
abbrev b_Ma_register : ByteArray := prog_2_method_9_code
def y_Ma_register : MethodName := ⟨R_Ma, "register", "(II)I"⟩
abbrev b_Ma_write : ByteArray := prog_2_method_10_code
def y_Ma_write : MethodName := ⟨R_Ma, "write", "(II)V"⟩
abbrev b_Ma_stop : ByteArray := prog_2_method_11_code
def y_Ma_stop : MethodName := ⟨R_Ma, "stop", "(I)V"⟩
abbrev b_Ma_changedNothingBut : ByteArray := prog_2_method_12_code
def y_Ma_changedNothingBut : MethodName := ⟨R_Ma, "changedNothingBut", "(I)Z"⟩
abbrev b_Ma_changedNumber : ByteArray := prog_2_method_13_code
def y_Ma_changedNumber : MethodName := ⟨R_Ma, "changedNumber", "()Z"⟩
abbrev b_Ma_costOfLatest : ByteArray := prog_2_method_14_code
def y_Ma_costOfLatest : MethodName := ⟨R_Ma, "costOfLatest", "()I"⟩
abbrev b_Ro_init : ByteArray := prog_3_method_1_code
def y_Ro_init : MethodName := ⟨R_Ro, "<init>", "(I)V"⟩
abbrev b_Ro_slot : ByteArray := prog_3_method_2_code
def y_Ro_slot : MethodName := ⟨R_Ro, "slot", "(I)I"⟩
abbrev b_Ro_keep : ByteArray := prog_3_method_3_code
def y_Ro_keep : MethodName := ⟨R_Ro, "keep", "(LBackSteps$Machine;)V"⟩
abbrev b_Ro_dropAll : ByteArray := prog_3_method_4_code
def y_Ro_dropAll : MethodName := ⟨R_Ro, "dropAll", "()V"⟩
abbrev b_Ro_forgetBehind : ByteArray := prog_3_method_5_code
def y_Ro_forgetBehind : MethodName := ⟨R_Ro, "forgetBehind", "(I)V"⟩
abbrev b_Ro_undoDownTo : ByteArray := prog_3_method_6_code
def y_Ro_undoDownTo : MethodName := ⟨R_Ro, "undoDownTo", "(ILBackSteps$Machine;)V"⟩
abbrev b_Ro_undo : ByteArray := prog_3_method_7_code
def y_Ro_undo : MethodName := ⟨R_Ro, "undo", "(ILBackSteps$Machine;)V"⟩
abbrev b_Ro_costOf : ByteArray := prog_3_method_8_code
def y_Ro_costOf : MethodName := ⟨R_Ro, "costOf", "(I)I"⟩
abbrev b_Ro_writtenBy : ByteArray := prog_3_method_9_code
def y_Ro_writtenBy : MethodName := ⟨R_Ro, "writtenBy", "(I)I"⟩
abbrev b_Ro_numberBefore : ByteArray := prog_3_method_10_code
def y_Ro_numberBefore : MethodName := ⟨R_Ro, "numberBefore", "(III)I"⟩
abbrev b_Ro_restBefore : ByteArray := prog_3_method_11_code
def y_Ro_restBefore : MethodName := ⟨R_Ro, "restBefore", "(II)I"⟩
abbrev b_Ro_sameNumbersBehind : ByteArray := prog_3_method_12_code
def y_Ro_sameNumbersBehind : MethodName := ⟨R_Ro, "sameNumbersBehind", "(ILBackSteps$Machine;)Z"⟩
abbrev b_La_cell : ByteArray := method_2_code
def y_La_cell : MethodName := ⟨R_La, "cell", "([II)I"⟩
abbrev b_La_program : ByteArray := method_3_code
def y_La_program : MethodName := ⟨R_La, "program", "(LBackSteps;II[J)I"⟩
abbrev b_La_input : ByteArray := method_4_code
def y_La_input : MethodName := ⟨R_La, "input", "(LBackSteps;I[J)I"⟩
abbrev b_La_poke : ByteArray := method_5_code
def y_La_poke : MethodName := ⟨R_La, "poke", "(LBackSteps;II[J)I"⟩
abbrev b_La_step : ByteArray := method_6_code
def y_La_step : MethodName := ⟨R_La, "step", "(LBackSteps;I[J)I"⟩
abbrev b_La_back : ByteArray := method_7_code
def y_La_back : MethodName := ⟨R_La, "back", "(LBackSteps;I[J)I"⟩
abbrev b_La_look : ByteArray := method_8_code
def y_La_look : MethodName := ⟨R_La, "look", "(LBackSteps;II[J)I"⟩
abbrev b_La_wrote : ByteArray := method_9_code
def y_La_wrote : MethodName := ⟨R_La, "wrote", "(LBackSteps;I[J)I"⟩
abbrev b_La_when : ByteArray := method_10_code
def y_La_when : MethodName := ⟨R_La, "when", "(LBackSteps;III[J)I"⟩
abbrev b_La_cost : ByteArray := method_11_code
def y_La_cost : MethodName := ⟨R_La, "cost", "(LBackSteps;I[J)I"⟩
abbrev b_La_law : ByteArray := code
def y_La_law : MethodName := ⟨R_La, "law", "([I)Z"⟩
abbrev b_Mt_floorMod : ByteArray := prog_9_method_50_code
def y_Mt_floorMod : MethodName := ⟨R_Mt, "floorMod", "(II)I"⟩
abbrev b_Mt_floorDiv : ByteArray := prog_9_method_47_code
def y_Mt_floorDiv : MethodName := ⟨R_Mt, "floorDiv", "(II)I"⟩
