/-! names of this claim: laid by my own program out of claim/Statement.lean and claim/JAVAP.txt -/
def ew_T : List Cond := lw_tbl.filter goodWord
def R_M : String := "ExtentDisk$Manifest"
def T_M : u_T := fun k => match k with
  | 0 => ("ExtentDisk$Manifest", "labels", "[I", true)
  | 1 => ("ExtentDisk$Manifest", "firsts", "[I", true)
  | 2 => ("ExtentDisk$Manifest", "sizes", "[I", true)
  | 3 => ("ExtentDisk$Manifest", "notes", "[I", true)
  | 4 => ("ExtentDisk$Manifest", "extents", "I", false)
  | _ => ("ExtentDisk$Manifest", "changes", "I", false)
def t_M : Nat → FieldType := fun k => match k with
  | 0 => .array .int
  | 1 => .array .int
  | 2 => .array .int
  | 3 => .array .int
  | 4 => .int
  | _ => .int
theorem n_M : ∀ a, a < 6 → ∀ b, b < 6 → a ≠ b → (T_M a).2.1 ≠ (T_M b).2.1 := by decide +kernel
theorem t_M_ok : ∀ k, k < 6 → parseFieldDescriptor (T_M k).2.2.1 = some (t_M k) := by decide +kernel
def R_P : String := "ExtentDisk$Platter"
def T_P : u_T := fun k => match k with
  | 0 => ("ExtentDisk$Platter", "bytes", "[B", true)
  | 1 => ("ExtentDisk$Platter", "down", "Z", false)
  | 2 => ("ExtentDisk$Platter", "written", "I", false)
  | _ => ("ExtentDisk$Platter", "powerLeft", "I", false)
def t_P : Nat → FieldType := fun k => match k with
  | 0 => .array .byte
  | 1 => .boolean
  | 2 => .int
  | _ => .int
theorem n_P : ∀ a, a < 4 → ∀ b, b < 4 → a ≠ b → (T_P a).2.1 ≠ (T_P b).2.1 := by decide +kernel
theorem t_P_ok : ∀ k, k < 4 → parseFieldDescriptor (T_P k).2.2.1 = some (t_P k) := by decide +kernel
def R_Tp : String := "ExtentDisk$Tape"
def T_Tp : u_T := fun k => match k with
  | 0 => ("ExtentDisk$Tape", "bytes", "[B", true)
  | _ => ("ExtentDisk$Tape", "length", "I", false)
def t_Tp : Nat → FieldType := fun k => match k with
  | 0 => .array .byte
  | _ => .int
theorem n_Tp : ∀ a, a < 2 → ∀ b, b < 2 → a ≠ b → (T_Tp a).2.1 ≠ (T_Tp b).2.1 := by decide +kernel
theorem t_Tp_ok : ∀ k, k < 2 → parseFieldDescriptor (T_Tp k).2.2.1 = some (t_Tp k) := by decide +kernel
def R_D : String := "ExtentDisk"
def T_D : u_T := fun k => match k with
  | 0 => ("ExtentDisk", "platter", "LExtentDisk$Platter;", true)
  | 1 => ("ExtentDisk", "tape", "LExtentDisk$Tape;", true)
  | 2 => ("ExtentDisk", "wishes", "[I", true)
  | 3 => ("ExtentDisk", "page", "[B", true)
  | 4 => ("ExtentDisk", "tenants", "[I", true)
  | 5 => ("ExtentDisk", "now", "LExtentDisk$Manifest;", false)
  | _ => ("ExtentDisk", "next", "LExtentDisk$Manifest;", false)
def t_D : Nat → FieldType := fun k => match k with
  | 0 => .object "ExtentDisk$Platter"
  | 1 => .object "ExtentDisk$Tape"
  | 2 => .array .int
  | 3 => .array .byte
  | 4 => .array .int
  | 5 => .object "ExtentDisk$Manifest"
  | _ => .object "ExtentDisk$Manifest"
theorem n_D : ∀ a, a < 7 → ∀ b, b < 7 → a ≠ b → (T_D a).2.1 ≠ (T_D b).2.1 := by decide +kernel
theorem t_D_ok : ∀ k, k < 7 → parseFieldDescriptor (T_D k).2.2.1 = some (t_D k) := by decide +kernel
def R_K : String := "ExtentDiskModel"
def T_K : u_T := fun k => match k with
  | 0 => ("ExtentDiskModel", "code", "I", false)
  | 1 => ("ExtentDiskModel", "blocks", "I", true)
  | 2 => ("ExtentDiskModel", "down", "Z", false)
  | 3 => ("ExtentDiskModel", "writes", "I", false)
  | 4 => ("ExtentDiskModel", "left", "I", false)
  | 5 => ("ExtentDiskModel", "extents", "I", false)
  | 6 => ("ExtentDiskModel", "label", "[I", true)
  | 7 => ("ExtentDiskModel", "first", "[I", true)
  | 8 => ("ExtentDiskModel", "many", "[I", true)
  | 9 => ("ExtentDiskModel", "bytes", "[I", true)
  | 10 => ("ExtentDiskModel", "note", "[I", true)
  | 11 => ("ExtentDiskModel", "changes", "I", false)
  | 12 => ("ExtentDiskModel", "disk", "[B", true)
  | 13 => ("ExtentDiskModel", "used", "[Z", true)
  | 14 => ("ExtentDiskModel", "wish", "[I", true)
  | 15 => ("ExtentDiskModel", "taped", "I", false)
  | _ => ("ExtentDiskModel", "tape", "[B", true)
def t_K : Nat → FieldType := fun k => match k with
  | 0 => .int
  | 1 => .int
  | 2 => .boolean
  | 3 => .int
  | 4 => .int
  | 5 => .int
  | 6 => .array .int
  | 7 => .array .int
  | 8 => .array .int
  | 9 => .array .int
  | 10 => .array .int
  | 11 => .int
  | 12 => .array .byte
  | 13 => .array .boolean
  | 14 => .array .int
  | 15 => .int
  | _ => .array .byte
theorem n_K : ∀ a, a < 17 → ∀ b, b < 17 → a ≠ b → (T_K a).2.1 ≠ (T_K b).2.1 := by decide +kernel
theorem t_K_ok : ∀ k, k < 17 → parseFieldDescriptor (T_K k).2.2.1 = some (t_K k) := by decide +kernel
def R_L : String := "ExtentDiskLaw"
def R_A : String := "java/util/Arrays"
abbrev vwCl : List vw_C := [(R_M, T_M, 6), (R_P, T_P, 4), (R_Tp, T_Tp, 2), (R_D, T_D, 7), (R_K, T_K, 17)]
theorem ew_mem {w : Cond} (i : Nat) (h : lw_tbl[i]? = some w) (hg : goodWord w = true) : w ∈ ew_T := List.mem_filter.mpr ⟨List.mem_of_getElem? h, hg⟩
theorem ew_0 : (.selects "ExtentDisk" ⟨"ExtentDisk", "makeNextCount", "()V"⟩ ⟨"ExtentDisk", "makeNextCount", "()V"⟩ : Cond) ∈ ew_T := ew_mem 0 (by decide +kernel) (by decide +kernel)
theorem ew_1 : (.selects "java/lang/Throwable" ⟨"java/lang/Throwable", "fillInStackTrace", "(I)Ljava/lang/Throwable;"⟩ ⟨"java/lang/Throwable", "fillInStackTrace", "(I)Ljava/lang/Throwable;"⟩ : Cond) ∈ ew_T := ew_mem 1 (by decide +kernel) (by decide +kernel)
theorem ew_2 : (.selects "ExtentDisk" ⟨"ExtentDisk", "firstFreeRow", "(I)I"⟩ ⟨"ExtentDisk", "firstFreeRow", "(I)I"⟩ : Cond) ∈ ew_T := ew_mem 2 (by decide +kernel) (by decide +kernel)
theorem ew_3 : (.selects "ExtentDisk" ⟨"ExtentDisk", "carryOut", "(I)I"⟩ ⟨"ExtentDisk", "carryOut", "(I)I"⟩ : Cond) ∈ ew_T := ew_mem 3 (by decide +kernel) (by decide +kernel)
theorem ew_4 : (.selects "ExtentDisk" ⟨"ExtentDisk", "forget", "()V"⟩ ⟨"ExtentDisk", "forget", "()V"⟩ : Cond) ∈ ew_T := ew_mem 4 (by decide +kernel) (by decide +kernel)
theorem ew_5 : (.selects "ExtentDisk" ⟨"ExtentDisk", "freeBlocks", "()I"⟩ ⟨"ExtentDisk", "freeBlocks", "()I"⟩ : Cond) ∈ ew_T := ew_mem 5 (by decide +kernel) (by decide +kernel)
theorem ew_6 : (.selects "ExtentDiskModel" ⟨"ExtentDiskModel", "goes", "(III)Z"⟩ ⟨"ExtentDiskModel", "goes", "(III)Z"⟩ : Cond) ∈ ew_T := ew_mem 6 (by decide +kernel) (by decide +kernel)
theorem ew_7 : (.selects "ExtentDiskModel" ⟨"ExtentDiskModel", "placeFor", "(I)I"⟩ ⟨"ExtentDiskModel", "placeFor", "(I)I"⟩ : Cond) ∈ ew_T := ew_mem 7 (by decide +kernel) (by decide +kernel)
theorem ew_8 : (.selects "ExtentDiskModel" ⟨"ExtentDiskModel", "mark", "()V"⟩ ⟨"ExtentDiskModel", "mark", "()V"⟩ : Cond) ∈ ew_T := ew_mem 8 (by decide +kernel) (by decide +kernel)
theorem ew_9 : (.selects "ExtentDiskModel" ⟨"ExtentDiskModel", "happen", "(IIIII)V"⟩ ⟨"ExtentDiskModel", "happen", "(IIIII)V"⟩ : Cond) ∈ ew_T := ew_mem 9 (by decide +kernel) (by decide +kernel)
theorem ew_10 : (.selects "ExtentDiskModel" ⟨"ExtentDiskModel", "fail", "()V"⟩ ⟨"ExtentDiskModel", "fail", "()V"⟩ : Cond) ∈ ew_T := ew_mem 10 (by decide +kernel) (by decide +kernel)
theorem ew_11 : (.selects "ExtentDiskModel" ⟨"ExtentDiskModel", "isExtent", "(I)Z"⟩ ⟨"ExtentDiskModel", "isExtent", "(I)Z"⟩ : Cond) ∈ ew_T := ew_mem 11 (by decide +kernel) (by decide +kernel)
theorem ew_12 : (.initialized "ExtentDiskLaw" : Cond) ∈ ew_T := ew_mem 12 (by decide +kernel) (by decide +kernel)
theorem ew_13 : (.initialized "ExtentDisk" : Cond) ∈ ew_T := ew_mem 13 (by decide +kernel) (by decide +kernel)
theorem ew_14 : (.initialized "java/lang/Math" : Cond) ∈ ew_T := ew_mem 14 (by decide +kernel) (by decide +kernel)
theorem ew_15 : (.initialized "ExtentDisk$Platter" : Cond) ∈ ew_T := ew_mem 15 (by decide +kernel) (by decide +kernel)
theorem ew_16 : (.initialized "ExtentDisk$Tape" : Cond) ∈ ew_T := ew_mem 16 (by decide +kernel) (by decide +kernel)
theorem ew_17 : (.initialized "ExtentDisk$Manifest" : Cond) ∈ ew_T := ew_mem 17 (by decide +kernel) (by decide +kernel)
theorem ew_18 : (.initialized "ExtentDiskModel" : Cond) ∈ ew_T := ew_mem 18 (by decide +kernel) (by decide +kernel)
theorem ew_19 : (.initialized "java/lang/Throwable" : Cond) ∈ ew_T := ew_mem 19 (by decide +kernel) (by decide +kernel)
theorem ew_20 : (.initialized "java/lang/Exception" : Cond) ∈ ew_T := ew_mem 20 (by decide +kernel) (by decide +kernel)
theorem ew_21 : (.initialized "java/lang/RuntimeException" : Cond) ∈ ew_T := ew_mem 21 (by decide +kernel) (by decide +kernel)
theorem ew_22 : (.initialized "java/lang/IllegalArgumentException" : Cond) ∈ ew_T := ew_mem 22 (by decide +kernel) (by decide +kernel)
theorem ew_23 : (.initialized "java/lang/IllegalStateException" : Cond) ∈ ew_T := ew_mem 23 (by decide +kernel) (by decide +kernel)
theorem ew_24 : (.initialized "java/util/Arrays" : Cond) ∈ ew_T := ew_mem 24 (by decide +kernel) (by decide +kernel)
theorem ew_25 : (.initialized "java/lang/System" : Cond) ∈ ew_T := ew_mem 25 (by decide +kernel) (by decide +kernel)
theorem ew_26 : (.classLink "ExtentDiskLaw" 8 "ExtentDisk" : Cond) ∈ ew_T := ew_mem 26 (by decide +kernel) (by decide +kernel)
theorem ew_27 : (.instantiable "ExtentDisk" 7 : Cond) ∈ ew_T := ew_mem 27 (by decide +kernel) (by decide +kernel)
theorem ew_28 : (.methodLink "ExtentDiskLaw" 58 ⟨"ExtentDisk", "<init>", "(I)V"⟩ : Cond) ∈ ew_T := ew_mem 28 (by decide +kernel) (by decide +kernel)
theorem ew_29 : (.instanceMethod ⟨"ExtentDisk", "<init>", "(I)V"⟩ : Cond) ∈ ew_T := ew_mem 29 (by decide +kernel) (by decide +kernel)
set_option maxRecDepth 20000 in
theorem ew_30 : (.code ⟨"ExtentDisk", "<init>", "(I)V"⟩ prog_1_method_1_code 3 none : Cond) ∈ ew_T := ew_mem 30 rfl rfl
theorem ew_31 : (.methodLink "ExtentDisk" 1 ⟨"java/lang/Object", "<init>", "()V"⟩ : Cond) ∈ ew_T := ew_mem 31 (by decide +kernel) (by decide +kernel)
theorem ew_32 : (.instanceMethod ⟨"java/lang/Object", "<init>", "()V"⟩ : Cond) ∈ ew_T := ew_mem 32 (by decide +kernel) (by decide +kernel)
set_option maxRecDepth 20000 in
theorem ew_33 : (.code ⟨"java/lang/Object", "<init>", "()V"⟩ object_method_1_code 1 none : Cond) ∈ ew_T := ew_mem 33 rfl rfl
theorem ew_34 : (.methodLink "ExtentDisk" 9 ⟨"java/lang/Math", "min", "(II)I"⟩ : Cond) ∈ ew_T := ew_mem 34 (by decide +kernel) (by decide +kernel)
theorem ew_35 : (.static ⟨"java/lang/Math", "min", "(II)I"⟩ : Cond) ∈ ew_T := ew_mem 35 (by decide +kernel) (by decide +kernel)
set_option maxRecDepth 20000 in
theorem ew_36 : (.code ⟨"java/lang/Math", "min", "(II)I"⟩ prog_10_method_69_code 2 (some .int) : Cond) ∈ ew_T := ew_mem 36 rfl rfl
theorem ew_37 : (.methodLink "ExtentDisk" 15 ⟨"java/lang/Math", "max", "(II)I"⟩ : Cond) ∈ ew_T := ew_mem 37 (by decide +kernel) (by decide +kernel)
theorem ew_38 : (.static ⟨"java/lang/Math", "max", "(II)I"⟩ : Cond) ∈ ew_T := ew_mem 38 (by decide +kernel) (by decide +kernel)
set_option maxRecDepth 20000 in
theorem ew_39 : (.code ⟨"java/lang/Math", "max", "(II)I"⟩ prog_10_method_65_code 2 (some .int) : Cond) ∈ ew_T := ew_mem 39 rfl rfl
theorem ew_40 : (.classLink "ExtentDisk" 18 "ExtentDisk$Platter" : Cond) ∈ ew_T := ew_mem 40 (by decide +kernel) (by decide +kernel)
theorem ew_41 : (.instantiable "ExtentDisk$Platter" 4 : Cond) ∈ ew_T := ew_mem 41 (by decide +kernel) (by decide +kernel)
theorem ew_42 : (.methodLink "ExtentDisk" 20 ⟨"ExtentDisk$Platter", "<init>", "(I)V"⟩ : Cond) ∈ ew_T := ew_mem 42 (by decide +kernel) (by decide +kernel)
theorem ew_43 : (.instanceMethod ⟨"ExtentDisk$Platter", "<init>", "(I)V"⟩ : Cond) ∈ ew_T := ew_mem 43 (by decide +kernel) (by decide +kernel)
set_option maxRecDepth 20000 in
theorem ew_44 : (.code ⟨"ExtentDisk$Platter", "<init>", "(I)V"⟩ prog_3_method_1_code 2 none : Cond) ∈ ew_T := ew_mem 44 rfl rfl
theorem ew_45 : (.methodLink "ExtentDisk$Platter" 3 ⟨"java/lang/Object", "<init>", "()V"⟩ : Cond) ∈ ew_T := ew_mem 45 (by decide +kernel) (by decide +kernel)
theorem ew_46 : (.fieldLink "ExtentDisk$Platter" 9 "ExtentDisk$Platter" "bytes" "[B" : Cond) ∈ ew_T := ew_mem 46 (by decide +kernel) (by decide +kernel)
theorem ew_47 : (.fieldLink "ExtentDisk$Platter" 19 "ExtentDisk$Platter" "down" "Z" : Cond) ∈ ew_T := ew_mem 47 (by decide +kernel) (by decide +kernel)
theorem ew_48 : (.fieldLink "ExtentDisk" 62 "ExtentDisk$Platter" "down" "Z" : Cond) ∈ ew_T := ew_mem 48 (by decide +kernel) (by decide +kernel)
theorem ew_49 : (.fieldLink "ExtentDisk$Platter" 29 "ExtentDisk$Platter" "written" "I" : Cond) ∈ ew_T := ew_mem 49 (by decide +kernel) (by decide +kernel)
theorem ew_50 : (.fieldLink "ExtentDisk" 163 "ExtentDisk$Platter" "written" "I" : Cond) ∈ ew_T := ew_mem 50 (by decide +kernel) (by decide +kernel)
theorem ew_51 : (.fieldLink "ExtentDisk$Platter" 15 "ExtentDisk$Platter" "powerLeft" "I" : Cond) ∈ ew_T := ew_mem 51 (by decide +kernel) (by decide +kernel)
theorem ew_52 : (.laysFinal "ExtentDisk$Platter" "ExtentDisk$Platter" "bytes" "[B" : Cond) ∈ ew_T := ew_mem 52 (by decide +kernel) (by decide +kernel)
theorem ew_54 : (.lays "ExtentDisk$Platter" "ExtentDisk$Platter" "down" "Z" : Cond) ∈ ew_T := ew_mem 54 (by decide +kernel) (by decide +kernel)
theorem ew_56 : (.lays "ExtentDisk$Platter" "ExtentDisk$Platter" "written" "I" : Cond) ∈ ew_T := ew_mem 56 (by decide +kernel) (by decide +kernel)
theorem ew_58 : (.lays "ExtentDisk$Platter" "ExtentDisk$Platter" "powerLeft" "I" : Cond) ∈ ew_T := ew_mem 58 (by decide +kernel) (by decide +kernel)
theorem ew_61 : (.arrayClass .byte : Cond) ∈ ew_T := ew_mem 61 (by decide +kernel) (by decide +kernel)
theorem ew_62 : (.classLink "ExtentDisk" 27 "ExtentDisk$Tape" : Cond) ∈ ew_T := ew_mem 62 (by decide +kernel) (by decide +kernel)
theorem ew_63 : (.instantiable "ExtentDisk$Tape" 2 : Cond) ∈ ew_T := ew_mem 63 (by decide +kernel) (by decide +kernel)
theorem ew_64 : (.methodLink "ExtentDisk" 29 ⟨"ExtentDisk$Tape", "<init>", "(I)V"⟩ : Cond) ∈ ew_T := ew_mem 64 (by decide +kernel) (by decide +kernel)
theorem ew_65 : (.instanceMethod ⟨"ExtentDisk$Tape", "<init>", "(I)V"⟩ : Cond) ∈ ew_T := ew_mem 65 (by decide +kernel) (by decide +kernel)
set_option maxRecDepth 20000 in
theorem ew_66 : (.code ⟨"ExtentDisk$Tape", "<init>", "(I)V"⟩ prog_4_method_1_code 2 none : Cond) ∈ ew_T := ew_mem 66 rfl rfl
theorem ew_67 : (.methodLink "ExtentDisk$Tape" 3 ⟨"java/lang/Object", "<init>", "()V"⟩ : Cond) ∈ ew_T := ew_mem 67 (by decide +kernel) (by decide +kernel)
theorem ew_68 : (.fieldLink "ExtentDisk$Tape" 9 "ExtentDisk$Tape" "bytes" "[B" : Cond) ∈ ew_T := ew_mem 68 (by decide +kernel) (by decide +kernel)
theorem ew_69 : (.fieldLink "ExtentDisk" 173 "ExtentDisk$Tape" "bytes" "[B" : Cond) ∈ ew_T := ew_mem 69 (by decide +kernel) (by decide +kernel)
theorem ew_70 : (.fieldLink "ExtentDisk$Tape" 15 "ExtentDisk$Tape" "length" "I" : Cond) ∈ ew_T := ew_mem 70 (by decide +kernel) (by decide +kernel)
theorem ew_71 : (.fieldLink "ExtentDisk" 79 "ExtentDisk$Tape" "length" "I" : Cond) ∈ ew_T := ew_mem 71 (by decide +kernel) (by decide +kernel)
theorem ew_72 : (.laysFinal "ExtentDisk$Tape" "ExtentDisk$Tape" "bytes" "[B" : Cond) ∈ ew_T := ew_mem 72 (by decide +kernel) (by decide +kernel)
theorem ew_74 : (.lays "ExtentDisk$Tape" "ExtentDisk$Tape" "length" "I" : Cond) ∈ ew_T := ew_mem 74 (by decide +kernel) (by decide +kernel)
theorem ew_77 : (.classLink "ExtentDisk" 45 "ExtentDisk$Manifest" : Cond) ∈ ew_T := ew_mem 77 (by decide +kernel) (by decide +kernel)
theorem ew_78 : (.instantiable "ExtentDisk$Manifest" 6 : Cond) ∈ ew_T := ew_mem 78 (by decide +kernel) (by decide +kernel)
theorem ew_80 : (.instanceMethod ⟨"ExtentDisk$Manifest", "<init>", "()V"⟩ : Cond) ∈ ew_T := ew_mem 80 (by decide +kernel) (by decide +kernel)
set_option maxRecDepth 20000 in
theorem ew_81 : (.code ⟨"ExtentDisk$Manifest", "<init>", "()V"⟩ prog_2_method_1_code 1 none : Cond) ∈ ew_T := ew_mem 81 rfl rfl
theorem ew_82 : (.methodLink "ExtentDisk$Manifest" 5 ⟨"java/lang/Object", "<init>", "()V"⟩ : Cond) ∈ ew_T := ew_mem 82 (by decide +kernel) (by decide +kernel)
theorem ew_83 : (.fieldLink "ExtentDisk$Manifest" 11 "ExtentDisk$Manifest" "labels" "[I" : Cond) ∈ ew_T := ew_mem 83 (by decide +kernel) (by decide +kernel)
theorem ew_84 : (.fieldLink "ExtentDisk" 120 "ExtentDisk$Manifest" "labels" "[I" : Cond) ∈ ew_T := ew_mem 84 (by decide +kernel) (by decide +kernel)
theorem ew_85 : (.fieldLink "ExtentDisk$Manifest" 15 "ExtentDisk$Manifest" "firsts" "[I" : Cond) ∈ ew_T := ew_mem 85 (by decide +kernel) (by decide +kernel)
theorem ew_86 : (.fieldLink "ExtentDisk" 123 "ExtentDisk$Manifest" "firsts" "[I" : Cond) ∈ ew_T := ew_mem 86 (by decide +kernel) (by decide +kernel)
theorem ew_87 : (.fieldLink "ExtentDisk$Manifest" 18 "ExtentDisk$Manifest" "sizes" "[I" : Cond) ∈ ew_T := ew_mem 87 (by decide +kernel) (by decide +kernel)
theorem ew_88 : (.fieldLink "ExtentDisk" 126 "ExtentDisk$Manifest" "sizes" "[I" : Cond) ∈ ew_T := ew_mem 88 (by decide +kernel) (by decide +kernel)
theorem ew_89 : (.fieldLink "ExtentDisk$Manifest" 21 "ExtentDisk$Manifest" "notes" "[I" : Cond) ∈ ew_T := ew_mem 89 (by decide +kernel) (by decide +kernel)
theorem ew_90 : (.fieldLink "ExtentDisk" 90 "ExtentDisk$Manifest" "notes" "[I" : Cond) ∈ ew_T := ew_mem 90 (by decide +kernel) (by decide +kernel)
theorem ew_91 : (.fieldLink "ExtentDisk$Manifest" 24 "ExtentDisk$Manifest" "extents" "I" : Cond) ∈ ew_T := ew_mem 91 (by decide +kernel) (by decide +kernel)
theorem ew_92 : (.fieldLink "ExtentDisk" 160 "ExtentDisk$Manifest" "extents" "I" : Cond) ∈ ew_T := ew_mem 92 (by decide +kernel) (by decide +kernel)
theorem ew_93 : (.fieldLink "ExtentDisk$Manifest" 28 "ExtentDisk$Manifest" "changes" "I" : Cond) ∈ ew_T := ew_mem 93 (by decide +kernel) (by decide +kernel)
theorem ew_94 : (.fieldLink "ExtentDisk" 148 "ExtentDisk$Manifest" "changes" "I" : Cond) ∈ ew_T := ew_mem 94 (by decide +kernel) (by decide +kernel)
theorem ew_95 : (.laysFinal "ExtentDisk$Manifest" "ExtentDisk$Manifest" "labels" "[I" : Cond) ∈ ew_T := ew_mem 95 (by decide +kernel) (by decide +kernel)
theorem ew_97 : (.laysFinal "ExtentDisk$Manifest" "ExtentDisk$Manifest" "firsts" "[I" : Cond) ∈ ew_T := ew_mem 97 (by decide +kernel) (by decide +kernel)
theorem ew_99 : (.laysFinal "ExtentDisk$Manifest" "ExtentDisk$Manifest" "sizes" "[I" : Cond) ∈ ew_T := ew_mem 99 (by decide +kernel) (by decide +kernel)
theorem ew_101 : (.laysFinal "ExtentDisk$Manifest" "ExtentDisk$Manifest" "notes" "[I" : Cond) ∈ ew_T := ew_mem 101 (by decide +kernel) (by decide +kernel)
theorem ew_103 : (.lays "ExtentDisk$Manifest" "ExtentDisk$Manifest" "extents" "I" : Cond) ∈ ew_T := ew_mem 103 (by decide +kernel) (by decide +kernel)
theorem ew_105 : (.lays "ExtentDisk$Manifest" "ExtentDisk$Manifest" "changes" "I" : Cond) ∈ ew_T := ew_mem 105 (by decide +kernel) (by decide +kernel)
theorem ew_108 : (.arrayClass .int : Cond) ∈ ew_T := ew_mem 108 (by decide +kernel) (by decide +kernel)
theorem ew_109 : (.fieldLink "ExtentDisk" 23 "ExtentDisk" "platter" "LExtentDisk$Platter;" : Cond) ∈ ew_T := ew_mem 109 (by decide +kernel) (by decide +kernel)
theorem ew_110 : (.fieldLink "ExtentDisk" 30 "ExtentDisk" "tape" "LExtentDisk$Tape;" : Cond) ∈ ew_T := ew_mem 110 (by decide +kernel) (by decide +kernel)
theorem ew_111 : (.fieldLink "ExtentDisk" 34 "ExtentDisk" "wishes" "[I" : Cond) ∈ ew_T := ew_mem 111 (by decide +kernel) (by decide +kernel)
theorem ew_112 : (.fieldLink "ExtentDisk" 38 "ExtentDisk" "page" "[B" : Cond) ∈ ew_T := ew_mem 112 (by decide +kernel) (by decide +kernel)
theorem ew_113 : (.fieldLink "ExtentDisk" 42 "ExtentDisk" "tenants" "[I" : Cond) ∈ ew_T := ew_mem 113 (by decide +kernel) (by decide +kernel)
theorem ew_114 : (.fieldLink "ExtentDisk" 48 "ExtentDisk" "now" "LExtentDisk$Manifest;" : Cond) ∈ ew_T := ew_mem 114 (by decide +kernel) (by decide +kernel)
theorem ew_115 : (.fieldLink "ExtentDisk" 52 "ExtentDisk" "next" "LExtentDisk$Manifest;" : Cond) ∈ ew_T := ew_mem 115 (by decide +kernel) (by decide +kernel)
theorem ew_116 : (.laysFinal "ExtentDisk" "ExtentDisk" "platter" "LExtentDisk$Platter;" : Cond) ∈ ew_T := ew_mem 116 (by decide +kernel) (by decide +kernel)
theorem ew_118 : (.laysFinal "ExtentDisk" "ExtentDisk" "tape" "LExtentDisk$Tape;" : Cond) ∈ ew_T := ew_mem 118 (by decide +kernel) (by decide +kernel)
theorem ew_120 : (.laysFinal "ExtentDisk" "ExtentDisk" "wishes" "[I" : Cond) ∈ ew_T := ew_mem 120 (by decide +kernel) (by decide +kernel)
theorem ew_122 : (.laysFinal "ExtentDisk" "ExtentDisk" "page" "[B" : Cond) ∈ ew_T := ew_mem 122 (by decide +kernel) (by decide +kernel)
theorem ew_124 : (.laysFinal "ExtentDisk" "ExtentDisk" "tenants" "[I" : Cond) ∈ ew_T := ew_mem 124 (by decide +kernel) (by decide +kernel)
theorem ew_126 : (.lays "ExtentDisk" "ExtentDisk" "now" "LExtentDisk$Manifest;" : Cond) ∈ ew_T := ew_mem 126 (by decide +kernel) (by decide +kernel)
theorem ew_128 : (.lays "ExtentDisk" "ExtentDisk" "next" "LExtentDisk$Manifest;" : Cond) ∈ ew_T := ew_mem 128 (by decide +kernel) (by decide +kernel)
theorem ew_131 : (.methodLink "ExtentDiskLaw" 101 ⟨"ExtentDisk", "recover", "()I"⟩ : Cond) ∈ ew_T := ew_mem 131 (by decide +kernel) (by decide +kernel)
theorem ew_132 : (.instanceMethod ⟨"ExtentDisk", "recover", "()I"⟩ : Cond) ∈ ew_T := ew_mem 132 (by decide +kernel) (by decide +kernel)
theorem ew_133 : (.selects "ExtentDisk" ⟨"ExtentDisk", "recover", "()I"⟩ ⟨"ExtentDisk", "recover", "()I"⟩ : Cond) ∈ ew_T := ew_mem 133 (by decide +kernel) (by decide +kernel)
set_option maxRecDepth 20000 in
theorem ew_134 : (.code ⟨"ExtentDisk", "recover", "()I"⟩ prog_1_method_11_code 1 (some .int) : Cond) ∈ ew_T := ew_mem 134 rfl rfl
theorem ew_135 : (.methodLink "ExtentDisk" 138 ⟨"ExtentDisk$Platter", "limitPower", "(I)V"⟩ : Cond) ∈ ew_T := ew_mem 135 (by decide +kernel) (by decide +kernel)
theorem ew_136 : (.instanceMethod ⟨"ExtentDisk$Platter", "limitPower", "(I)V"⟩ : Cond) ∈ ew_T := ew_mem 136 (by decide +kernel) (by decide +kernel)
theorem ew_137 : (.selects "ExtentDisk$Platter" ⟨"ExtentDisk$Platter", "limitPower", "(I)V"⟩ ⟨"ExtentDisk$Platter", "limitPower", "(I)V"⟩ : Cond) ∈ ew_T := ew_mem 137 (by decide +kernel) (by decide +kernel)
set_option maxRecDepth 20000 in
theorem ew_138 : (.code ⟨"ExtentDisk$Platter", "limitPower", "(I)V"⟩ prog_3_method_2_code 2 none : Cond) ∈ ew_T := ew_mem 138 rfl rfl
theorem ew_139 : (.methodLink "ExtentDisk" 144 ⟨"ExtentDisk$Manifest", "load", "(LExtentDisk$Platter;I)V"⟩ : Cond) ∈ ew_T := ew_mem 139 (by decide +kernel) (by decide +kernel)
theorem ew_140 : (.instanceMethod ⟨"ExtentDisk$Manifest", "load", "(LExtentDisk$Platter;I)V"⟩ : Cond) ∈ ew_T := ew_mem 140 (by decide +kernel) (by decide +kernel)
theorem ew_141 : (.selects "ExtentDisk$Manifest" ⟨"ExtentDisk$Manifest", "load", "(LExtentDisk$Platter;I)V"⟩ ⟨"ExtentDisk$Manifest", "load", "(LExtentDisk$Platter;I)V"⟩ : Cond) ∈ ew_T := ew_mem 141 (by decide +kernel) (by decide +kernel)
set_option maxRecDepth 20000 in
theorem ew_142 : (.code ⟨"ExtentDisk$Manifest", "load", "(LExtentDisk$Platter;I)V"⟩ prog_2_method_9_code 7 none : Cond) ∈ ew_T := ew_mem 142 rfl rfl
theorem ew_143 : (.methodLink "ExtentDisk$Manifest" 37 ⟨"ExtentDisk$Manifest", "clear", "()V"⟩ : Cond) ∈ ew_T := ew_mem 143 (by decide +kernel) (by decide +kernel)
theorem ew_144 : (.instanceMethod ⟨"ExtentDisk$Manifest", "clear", "()V"⟩ : Cond) ∈ ew_T := ew_mem 144 (by decide +kernel) (by decide +kernel)
theorem ew_145 : (.selects "ExtentDisk$Manifest" ⟨"ExtentDisk$Manifest", "clear", "()V"⟩ ⟨"ExtentDisk$Manifest", "clear", "()V"⟩ : Cond) ∈ ew_T := ew_mem 145 (by decide +kernel) (by decide +kernel)
set_option maxRecDepth 20000 in
theorem ew_146 : (.code ⟨"ExtentDisk$Manifest", "clear", "()V"⟩ prog_2_method_3_code 1 none : Cond) ∈ ew_T := ew_mem 146 rfl rfl
theorem ew_147 : (.methodLink "ExtentDisk$Manifest" 31 ⟨"java/util/Arrays", "fill", "([II)V"⟩ : Cond) ∈ ew_T := ew_mem 147 (by decide +kernel) (by decide +kernel)
theorem ew_148 : (.static ⟨"java/util/Arrays", "fill", "([II)V"⟩ : Cond) ∈ ew_T := ew_mem 148 (by decide +kernel) (by decide +kernel)
set_option maxRecDepth 20000 in
theorem ew_149 : (.code ⟨"java/util/Arrays", "fill", "([II)V"⟩ prog_15_method_103_code 4 none : Cond) ∈ ew_T := ew_mem 149 rfl rfl
theorem ew_150 : (.methodLink "ExtentDisk$Manifest" 58 ⟨"ExtentDisk$Platter", "readInt", "(I)I"⟩ : Cond) ∈ ew_T := ew_mem 150 (by decide +kernel) (by decide +kernel)
theorem ew_151 : (.instanceMethod ⟨"ExtentDisk$Platter", "readInt", "(I)I"⟩ : Cond) ∈ ew_T := ew_mem 151 (by decide +kernel) (by decide +kernel)
theorem ew_152 : (.selects "ExtentDisk$Platter" ⟨"ExtentDisk$Platter", "readInt", "(I)I"⟩ ⟨"ExtentDisk$Platter", "readInt", "(I)I"⟩ : Cond) ∈ ew_T := ew_mem 152 (by decide +kernel) (by decide +kernel)
set_option maxRecDepth 20000 in
theorem ew_153 : (.code ⟨"ExtentDisk$Platter", "readInt", "(I)I"⟩ prog_3_method_5_code 2 (some .int) : Cond) ∈ ew_T := ew_mem 153 rfl rfl
theorem ew_154 : (.methodLink "ExtentDisk$Platter" 36 ⟨"ExtentDisk$Platter", "read", "(I)I"⟩ : Cond) ∈ ew_T := ew_mem 154 (by decide +kernel) (by decide +kernel)
theorem ew_155 : (.instanceMethod ⟨"ExtentDisk$Platter", "read", "(I)I"⟩ : Cond) ∈ ew_T := ew_mem 155 (by decide +kernel) (by decide +kernel)
theorem ew_156 : (.selects "ExtentDisk$Platter" ⟨"ExtentDisk$Platter", "read", "(I)I"⟩ ⟨"ExtentDisk$Platter", "read", "(I)I"⟩ : Cond) ∈ ew_T := ew_mem 156 (by decide +kernel) (by decide +kernel)
set_option maxRecDepth 20000 in
theorem ew_157 : (.code ⟨"ExtentDisk$Platter", "read", "(I)I"⟩ prog_3_method_4_code 2 (some .int) : Cond) ∈ ew_T := ew_mem 157 rfl rfl
theorem ew_158 : (.methodLink "ExtentDisk$Manifest" 63 ⟨"java/lang/Math", "min", "(II)I"⟩ : Cond) ∈ ew_T := ew_mem 158 (by decide +kernel) (by decide +kernel)
theorem ew_159 : (.methodLink "ExtentDisk$Manifest" 40 ⟨"ExtentDisk$Manifest", "add", "(III)Z"⟩ : Cond) ∈ ew_T := ew_mem 159 (by decide +kernel) (by decide +kernel)
theorem ew_160 : (.instanceMethod ⟨"ExtentDisk$Manifest", "add", "(III)Z"⟩ : Cond) ∈ ew_T := ew_mem 160 (by decide +kernel) (by decide +kernel)
theorem ew_161 : (.selects "ExtentDisk$Manifest" ⟨"ExtentDisk$Manifest", "add", "(III)Z"⟩ ⟨"ExtentDisk$Manifest", "add", "(III)Z"⟩ : Cond) ∈ ew_T := ew_mem 161 (by decide +kernel) (by decide +kernel)
set_option maxRecDepth 20000 in
theorem ew_162 : (.code ⟨"ExtentDisk$Manifest", "add", "(III)Z"⟩ prog_2_method_4_code 4 (some .boolean) : Cond) ∈ ew_T := ew_mem 162 rfl rfl
theorem ew_163 : (.methodLink "ExtentDisk" 151 ⟨"ExtentDisk", "makeNextCount", "()V"⟩ : Cond) ∈ ew_T := ew_mem 163 (by decide +kernel) (by decide +kernel)
theorem ew_165 : (.instanceMethod ⟨"ExtentDisk", "makeNextCount", "()V"⟩ : Cond) ∈ ew_T := ew_mem 165 (by decide +kernel) (by decide +kernel)
set_option maxRecDepth 20000 in
theorem ew_166 : (.code ⟨"ExtentDisk", "makeNextCount", "()V"⟩ prog_1_method_20_code 2 none : Cond) ∈ ew_T := ew_mem 166 rfl rfl
theorem ew_167 : (.methodLink "ExtentDisk" 154 ⟨"java/lang/System", "arraycopy", "(Ljava/lang/Object;ILjava/lang/Object;II)V"⟩ : Cond) ∈ ew_T := ew_mem 167 (by decide +kernel) (by decide +kernel)
theorem ew_168 : (.static ⟨"java/lang/System", "arraycopy", "(Ljava/lang/Object;ILjava/lang/Object;II)V"⟩ : Cond) ∈ ew_T := ew_mem 168 (by decide +kernel) (by decide +kernel)
theorem ew_169 : (.native ⟨"java/lang/System", "arraycopy", "(Ljava/lang/Object;ILjava/lang/Object;II)V"⟩ : Cond) ∈ ew_T := ew_mem 169 (by decide +kernel) (by decide +kernel)
theorem ew_170 : (.methodLink "ExtentDiskLaw" 105 ⟨"ExtentDisk", "isDown", "()Z"⟩ : Cond) ∈ ew_T := ew_mem 170 (by decide +kernel) (by decide +kernel)
theorem ew_171 : (.instanceMethod ⟨"ExtentDisk", "isDown", "()Z"⟩ : Cond) ∈ ew_T := ew_mem 171 (by decide +kernel) (by decide +kernel)
theorem ew_172 : (.selects "ExtentDisk" ⟨"ExtentDisk", "isDown", "()Z"⟩ ⟨"ExtentDisk", "isDown", "()Z"⟩ : Cond) ∈ ew_T := ew_mem 172 (by decide +kernel) (by decide +kernel)
set_option maxRecDepth 20000 in
theorem ew_173 : (.code ⟨"ExtentDisk", "isDown", "()Z"⟩ prog_1_method_12_code 1 (some .boolean) : Cond) ∈ ew_T := ew_mem 173 rfl rfl
theorem ew_174 : (.methodLink "ExtentDiskLaw" 110 ⟨"ExtentDisk", "writes", "()I"⟩ : Cond) ∈ ew_T := ew_mem 174 (by decide +kernel) (by decide +kernel)
theorem ew_175 : (.instanceMethod ⟨"ExtentDisk", "writes", "()I"⟩ : Cond) ∈ ew_T := ew_mem 175 (by decide +kernel) (by decide +kernel)
theorem ew_176 : (.selects "ExtentDisk" ⟨"ExtentDisk", "writes", "()I"⟩ ⟨"ExtentDisk", "writes", "()I"⟩ : Cond) ∈ ew_T := ew_mem 176 (by decide +kernel) (by decide +kernel)
set_option maxRecDepth 20000 in
theorem ew_177 : (.code ⟨"ExtentDisk", "writes", "()I"⟩ prog_1_method_13_code 1 (some .int) : Cond) ∈ ew_T := ew_mem 177 rfl rfl
theorem ew_178 : (.methodLink "ExtentDiskLaw" 52 ⟨"ExtentDiskLaw", "cell", "([II)I"⟩ : Cond) ∈ ew_T := ew_mem 178 (by decide +kernel) (by decide +kernel)
theorem ew_179 : (.static ⟨"ExtentDiskLaw", "cell", "([II)I"⟩ : Cond) ∈ ew_T := ew_mem 179 (by decide +kernel) (by decide +kernel)
set_option maxRecDepth 20000 in
theorem ew_180 : (.code ⟨"ExtentDiskLaw", "cell", "([II)I"⟩ method_2_code 2 (some .int) : Cond) ∈ ew_T := ew_mem 180 rfl rfl
theorem ew_181 : (.methodLink "ExtentDiskLaw" 65 ⟨"ExtentDiskLaw", "put", "(LExtentDisk;JI[J)I"⟩ : Cond) ∈ ew_T := ew_mem 181 (by decide +kernel) (by decide +kernel)
theorem ew_182 : (.static ⟨"ExtentDiskLaw", "put", "(LExtentDisk;JI[J)I"⟩ : Cond) ∈ ew_T := ew_mem 182 (by decide +kernel) (by decide +kernel)
set_option maxRecDepth 20000 in
theorem ew_183 : (.codeWith ⟨"ExtentDiskLaw", "put", "(LExtentDisk;JI[J)I"⟩ method_3_code 6 (some .int) [(0, 11, 14, 13), (0, 11, 18, 15)] : Cond) ∈ ew_T := ew_mem 183 rfl rfl
theorem ew_184 : (.classLink "ExtentDiskLaw" 13 "java/lang/IllegalArgumentException" : Cond) ∈ ew_T := ew_mem 184 (by decide +kernel) (by decide +kernel)
theorem ew_185 : (.classLink "ExtentDiskLaw" 15 "java/lang/IllegalStateException" : Cond) ∈ ew_T := ew_mem 185 (by decide +kernel) (by decide +kernel)
theorem ew_186 : (.methodLink "ExtentDiskLaw" 7 ⟨"ExtentDisk", "put", "(JI)I"⟩ : Cond) ∈ ew_T := ew_mem 186 (by decide +kernel) (by decide +kernel)
theorem ew_187 : (.instanceMethod ⟨"ExtentDisk", "put", "(JI)I"⟩ : Cond) ∈ ew_T := ew_mem 187 (by decide +kernel) (by decide +kernel)
theorem ew_188 : (.selects "ExtentDisk" ⟨"ExtentDisk", "put", "(JI)I"⟩ ⟨"ExtentDisk", "put", "(JI)I"⟩ : Cond) ∈ ew_T := ew_mem 188 (by decide +kernel) (by decide +kernel)
set_option maxRecDepth 20000 in
theorem ew_189 : (.code ⟨"ExtentDisk", "put", "(JI)I"⟩ prog_1_method_2_code 5 (some .int) : Cond) ∈ ew_T := ew_mem 189 rfl rfl
theorem ew_190 : (.classLink "ExtentDisk" 55 "java/lang/IllegalArgumentException" : Cond) ∈ ew_T := ew_mem 190 (by decide +kernel) (by decide +kernel)
theorem ew_191 : (.instantiable "java/lang/IllegalArgumentException" 6 : Cond) ∈ ew_T := ew_mem 191 (by decide +kernel) (by decide +kernel)
theorem ew_199 : (.selects "java/lang/IllegalArgumentException" ⟨"java/lang/Throwable", "fillInStackTrace", "(I)Ljava/lang/Throwable;"⟩ ⟨"java/lang/Throwable", "fillInStackTrace", "(I)Ljava/lang/Throwable;"⟩ : Cond) ∈ ew_T := ew_mem 199 (by decide +kernel) (by decide +kernel)
theorem ew_200 : (.selects "java/lang/IllegalArgumentException" ⟨"java/lang/Throwable", "fillInStackTrace", "()Ljava/lang/Throwable;"⟩ ⟨"java/lang/Throwable", "fillInStackTrace", "()Ljava/lang/Throwable;"⟩ : Cond) ∈ ew_T := ew_mem 200 (by decide +kernel) (by decide +kernel)
theorem ew_201 : (.lays "java/lang/IllegalArgumentException" "java/lang/Throwable" "cause" "Ljava/lang/Throwable;" : Cond) ∈ ew_T := ew_mem 201 (by decide +kernel) (by decide +kernel)
theorem ew_202 : (.lays "java/lang/Throwable" "java/lang/Throwable" "cause" "Ljava/lang/Throwable;" : Cond) ∈ ew_T := ew_mem 202 (by decide +kernel) (by decide +kernel)
theorem ew_203 : (.lays "java/lang/IllegalArgumentException" "java/lang/Throwable" "stackTrace" "[Ljava/lang/StackTraceElement;" : Cond) ∈ ew_T := ew_mem 203 (by decide +kernel) (by decide +kernel)
theorem ew_204 : (.lays "java/lang/Throwable" "java/lang/Throwable" "stackTrace" "[Ljava/lang/StackTraceElement;" : Cond) ∈ ew_T := ew_mem 204 (by decide +kernel) (by decide +kernel)
theorem ew_205 : (.lays "java/lang/IllegalArgumentException" "java/lang/Throwable" "suppressedExceptions" "Ljava/util/List;" : Cond) ∈ ew_T := ew_mem 205 (by decide +kernel) (by decide +kernel)
theorem ew_206 : (.lays "java/lang/Throwable" "java/lang/Throwable" "suppressedExceptions" "Ljava/util/List;" : Cond) ∈ ew_T := ew_mem 206 (by decide +kernel) (by decide +kernel)
theorem ew_207 : (.lays "java/lang/IllegalArgumentException" "java/lang/Throwable" "detailMessage" "Ljava/lang/String;" : Cond) ∈ ew_T := ew_mem 207 (by decide +kernel) (by decide +kernel)
theorem ew_208 : (.lays "java/lang/Throwable" "java/lang/Throwable" "detailMessage" "Ljava/lang/String;" : Cond) ∈ ew_T := ew_mem 208 (by decide +kernel) (by decide +kernel)
theorem ew_209 : (.lays "java/lang/IllegalArgumentException" "java/lang/Throwable" "backtrace" "Ljava/lang/Object;" : Cond) ∈ ew_T := ew_mem 209 (by decide +kernel) (by decide +kernel)
theorem ew_210 : (.lays "java/lang/Throwable" "java/lang/Throwable" "backtrace" "Ljava/lang/Object;" : Cond) ∈ ew_T := ew_mem 210 (by decide +kernel) (by decide +kernel)
theorem ew_211 : (.fieldLink "java/lang/Throwable" 198 "java/lang/Throwable" "backtrace" "Ljava/lang/Object;" : Cond) ∈ ew_T := ew_mem 211 (by decide +kernel) (by decide +kernel)
theorem ew_213 : (.instanceMethod ⟨"java/lang/Throwable", "<init>", "()V"⟩ : Cond) ∈ ew_T := ew_mem 213 (by decide +kernel) (by decide +kernel)
set_option maxRecDepth 20000 in
theorem ew_214 : (.code ⟨"java/lang/Throwable", "<init>", "()V"⟩ prog_14_method_1_code 1 none : Cond) ∈ ew_T := ew_mem 214 rfl rfl
theorem ew_215 : (.methodLink "java/lang/Throwable" 1 ⟨"java/lang/Object", "<init>", "()V"⟩ : Cond) ∈ ew_T := ew_mem 215 (by decide +kernel) (by decide +kernel)
theorem ew_216 : (.fieldLink "java/lang/Throwable" 13 "java/lang/Throwable" "UNASSIGNED_STACK" "[Ljava/lang/StackTraceElement;" : Cond) ∈ ew_T := ew_mem 216 (by decide +kernel) (by decide +kernel)
theorem ew_218 : (.fieldLink "java/lang/Throwable" 20 "java/lang/Throwable" "SUPPRESSED_SENTINEL" "Ljava/util/List;" : Cond) ∈ ew_T := ew_mem 218 (by decide +kernel) (by decide +kernel)
theorem ew_220 : (.methodLink "java/lang/Throwable" 27 ⟨"java/lang/Throwable", "fillInStackTrace", "()Ljava/lang/Throwable;"⟩ : Cond) ∈ ew_T := ew_mem 220 (by decide +kernel) (by decide +kernel)
theorem ew_221 : (.instanceMethod ⟨"java/lang/Throwable", "fillInStackTrace", "()Ljava/lang/Throwable;"⟩ : Cond) ∈ ew_T := ew_mem 221 (by decide +kernel) (by decide +kernel)
theorem ew_223 : (.selects "java/lang/IllegalStateException" ⟨"java/lang/Throwable", "fillInStackTrace", "()Ljava/lang/Throwable;"⟩ ⟨"java/lang/Throwable", "fillInStackTrace", "()Ljava/lang/Throwable;"⟩ : Cond) ∈ ew_T := ew_mem 223 (by decide +kernel) (by decide +kernel)
theorem ew_225 : (.methodLink "java/lang/Throwable" 202 ⟨"java/lang/Throwable", "fillInStackTrace", "(I)Ljava/lang/Throwable;"⟩ : Cond) ∈ ew_T := ew_mem 225 (by decide +kernel) (by decide +kernel)
theorem ew_227 : (.instanceMethod ⟨"java/lang/Throwable", "fillInStackTrace", "(I)Ljava/lang/Throwable;"⟩ : Cond) ∈ ew_T := ew_mem 227 (by decide +kernel) (by decide +kernel)
theorem ew_228 : (.instantiable "java/lang/Throwable" 6 : Cond) ∈ ew_T := ew_mem 228 (by decide +kernel) (by decide +kernel)
theorem ew_229 : (.native ⟨"java/lang/Throwable", "fillInStackTrace", "(I)Ljava/lang/Throwable;"⟩ : Cond) ∈ ew_T := ew_mem 229 (by decide +kernel) (by decide +kernel)
theorem ew_231 : (.methodLink "ExtentDisk" 59 ⟨"java/lang/IllegalArgumentException", "<init>", "(Ljava/lang/String;)V"⟩ : Cond) ∈ ew_T := ew_mem 231 (by decide +kernel) (by decide +kernel)
theorem ew_232 : (.instanceMethod ⟨"java/lang/IllegalArgumentException", "<init>", "(Ljava/lang/String;)V"⟩ : Cond) ∈ ew_T := ew_mem 232 (by decide +kernel) (by decide +kernel)
set_option maxRecDepth 20000 in
theorem ew_233 : (.code ⟨"java/lang/IllegalArgumentException", "<init>", "(Ljava/lang/String;)V"⟩ prog_8_method_2_code 2 none : Cond) ∈ ew_T := ew_mem 233 rfl rfl
theorem ew_234 : (.methodLink "java/lang/IllegalArgumentException" 7 ⟨"java/lang/RuntimeException", "<init>", "(Ljava/lang/String;)V"⟩ : Cond) ∈ ew_T := ew_mem 234 (by decide +kernel) (by decide +kernel)
theorem ew_235 : (.instanceMethod ⟨"java/lang/RuntimeException", "<init>", "(Ljava/lang/String;)V"⟩ : Cond) ∈ ew_T := ew_mem 235 (by decide +kernel) (by decide +kernel)
set_option maxRecDepth 20000 in
theorem ew_236 : (.code ⟨"java/lang/RuntimeException", "<init>", "(Ljava/lang/String;)V"⟩ prog_11_method_2_code 2 none : Cond) ∈ ew_T := ew_mem 236 rfl rfl
theorem ew_237 : (.methodLink "java/lang/RuntimeException" 7 ⟨"java/lang/Exception", "<init>", "(Ljava/lang/String;)V"⟩ : Cond) ∈ ew_T := ew_mem 237 (by decide +kernel) (by decide +kernel)
theorem ew_238 : (.instanceMethod ⟨"java/lang/Exception", "<init>", "(Ljava/lang/String;)V"⟩ : Cond) ∈ ew_T := ew_mem 238 (by decide +kernel) (by decide +kernel)
set_option maxRecDepth 20000 in
theorem ew_239 : (.code ⟨"java/lang/Exception", "<init>", "(Ljava/lang/String;)V"⟩ prog_7_method_2_code 2 none : Cond) ∈ ew_T := ew_mem 239 rfl rfl
theorem ew_240 : (.methodLink "java/lang/Exception" 7 ⟨"java/lang/Throwable", "<init>", "(Ljava/lang/String;)V"⟩ : Cond) ∈ ew_T := ew_mem 240 (by decide +kernel) (by decide +kernel)
theorem ew_241 : (.instanceMethod ⟨"java/lang/Throwable", "<init>", "(Ljava/lang/String;)V"⟩ : Cond) ∈ ew_T := ew_mem 241 (by decide +kernel) (by decide +kernel)
set_option maxRecDepth 20000 in
theorem ew_242 : (.code ⟨"java/lang/Throwable", "<init>", "(Ljava/lang/String;)V"⟩ prog_14_method_2_code 2 none : Cond) ∈ ew_T := ew_mem 242 rfl rfl
theorem ew_244 : (.fieldLink "java/lang/Throwable" 31 "java/lang/Throwable" "detailMessage" "Ljava/lang/String;" : Cond) ∈ ew_T := ew_mem 244 (by decide +kernel) (by decide +kernel)
theorem ew_245 : (.fieldLink "java/lang/Throwable" 7 "java/lang/Throwable" "cause" "Ljava/lang/Throwable;" : Cond) ∈ ew_T := ew_mem 245 (by decide +kernel) (by decide +kernel)
theorem ew_246 : (.fieldLink "java/lang/Throwable" 17 "java/lang/Throwable" "stackTrace" "[Ljava/lang/StackTraceElement;" : Cond) ∈ ew_T := ew_mem 246 (by decide +kernel) (by decide +kernel)
theorem ew_247 : (.fieldLink "java/lang/Throwable" 24 "java/lang/Throwable" "suppressedExceptions" "Ljava/util/List;" : Cond) ∈ ew_T := ew_mem 247 (by decide +kernel) (by decide +kernel)
theorem ew_252 : (.lays "java/lang/IllegalArgumentException" "java/lang/Throwable" "depth" "I" : Cond) ∈ ew_T := ew_mem 252 (by decide +kernel) (by decide +kernel)
theorem ew_256 : (.methodLink "ExtentDisk" 66 ⟨"ExtentDisk$Tape", "hasRoomFor", "(I)Z"⟩ : Cond) ∈ ew_T := ew_mem 256 (by decide +kernel) (by decide +kernel)
theorem ew_257 : (.instanceMethod ⟨"ExtentDisk$Tape", "hasRoomFor", "(I)Z"⟩ : Cond) ∈ ew_T := ew_mem 257 (by decide +kernel) (by decide +kernel)
theorem ew_258 : (.selects "ExtentDisk$Tape" ⟨"ExtentDisk$Tape", "hasRoomFor", "(I)Z"⟩ ⟨"ExtentDisk$Tape", "hasRoomFor", "(I)Z"⟩ : Cond) ∈ ew_T := ew_mem 258 (by decide +kernel) (by decide +kernel)
set_option maxRecDepth 20000 in
theorem ew_259 : (.code ⟨"ExtentDisk$Tape", "hasRoomFor", "(I)Z"⟩ prog_4_method_2_code 2 (some .boolean) : Cond) ∈ ew_T := ew_mem 259 rfl rfl
theorem ew_260 : (.classLink "ExtentDisk" 70 "java/lang/IllegalStateException" : Cond) ∈ ew_T := ew_mem 260 (by decide +kernel) (by decide +kernel)
theorem ew_261 : (.instantiable "java/lang/IllegalStateException" 6 : Cond) ∈ ew_T := ew_mem 261 (by decide +kernel) (by decide +kernel)
theorem ew_263 : (.selects "java/lang/IllegalStateException" ⟨"java/lang/Throwable", "fillInStackTrace", "(I)Ljava/lang/Throwable;"⟩ ⟨"java/lang/Throwable", "fillInStackTrace", "(I)Ljava/lang/Throwable;"⟩ : Cond) ∈ ew_T := ew_mem 263 (by decide +kernel) (by decide +kernel)
theorem ew_264 : (.lays "java/lang/IllegalStateException" "java/lang/Throwable" "cause" "Ljava/lang/Throwable;" : Cond) ∈ ew_T := ew_mem 264 (by decide +kernel) (by decide +kernel)
theorem ew_265 : (.lays "java/lang/IllegalStateException" "java/lang/Throwable" "stackTrace" "[Ljava/lang/StackTraceElement;" : Cond) ∈ ew_T := ew_mem 265 (by decide +kernel) (by decide +kernel)
theorem ew_266 : (.lays "java/lang/IllegalStateException" "java/lang/Throwable" "suppressedExceptions" "Ljava/util/List;" : Cond) ∈ ew_T := ew_mem 266 (by decide +kernel) (by decide +kernel)
theorem ew_267 : (.lays "java/lang/IllegalStateException" "java/lang/Throwable" "detailMessage" "Ljava/lang/String;" : Cond) ∈ ew_T := ew_mem 267 (by decide +kernel) (by decide +kernel)
theorem ew_268 : (.lays "java/lang/IllegalStateException" "java/lang/Throwable" "backtrace" "Ljava/lang/Object;" : Cond) ∈ ew_T := ew_mem 268 (by decide +kernel) (by decide +kernel)
theorem ew_270 : (.methodLink "ExtentDisk" 74 ⟨"java/lang/IllegalStateException", "<init>", "(Ljava/lang/String;)V"⟩ : Cond) ∈ ew_T := ew_mem 270 (by decide +kernel) (by decide +kernel)
theorem ew_271 : (.instanceMethod ⟨"java/lang/IllegalStateException", "<init>", "(Ljava/lang/String;)V"⟩ : Cond) ∈ ew_T := ew_mem 271 (by decide +kernel) (by decide +kernel)
set_option maxRecDepth 20000 in
theorem ew_272 : (.code ⟨"java/lang/IllegalStateException", "<init>", "(Ljava/lang/String;)V"⟩ prog_9_method_2_code 2 none : Cond) ∈ ew_T := ew_mem 272 rfl rfl
theorem ew_273 : (.methodLink "java/lang/IllegalStateException" 7 ⟨"java/lang/RuntimeException", "<init>", "(Ljava/lang/String;)V"⟩ : Cond) ∈ ew_T := ew_mem 273 (by decide +kernel) (by decide +kernel)
theorem ew_274 : (.lays "java/lang/IllegalStateException" "java/lang/Throwable" "depth" "I" : Cond) ∈ ew_T := ew_mem 274 (by decide +kernel) (by decide +kernel)
theorem ew_276 : (.methodLink "ExtentDisk" 75 ⟨"ExtentDisk$Tape", "append", "(B)V"⟩ : Cond) ∈ ew_T := ew_mem 276 (by decide +kernel) (by decide +kernel)
theorem ew_277 : (.instanceMethod ⟨"ExtentDisk$Tape", "append", "(B)V"⟩ : Cond) ∈ ew_T := ew_mem 277 (by decide +kernel) (by decide +kernel)
theorem ew_278 : (.selects "ExtentDisk$Tape" ⟨"ExtentDisk$Tape", "append", "(B)V"⟩ ⟨"ExtentDisk$Tape", "append", "(B)V"⟩ : Cond) ∈ ew_T := ew_mem 278 (by decide +kernel) (by decide +kernel)
set_option maxRecDepth 20000 in
theorem ew_279 : (.code ⟨"ExtentDisk$Tape", "append", "(B)V"⟩ prog_4_method_3_code 2 none : Cond) ∈ ew_T := ew_mem 279 rfl rfl
theorem ew_280 : (.methodLink "ExtentDiskLaw" 72 ⟨"ExtentDiskLaw", "fill", "(LExtentDisk;II[J)I"⟩ : Cond) ∈ ew_T := ew_mem 280 (by decide +kernel) (by decide +kernel)
theorem ew_281 : (.static ⟨"ExtentDiskLaw", "fill", "(LExtentDisk;II[J)I"⟩ : Cond) ∈ ew_T := ew_mem 281 (by decide +kernel) (by decide +kernel)
set_option maxRecDepth 20000 in
theorem ew_282 : (.codeWith ⟨"ExtentDiskLaw", "fill", "(LExtentDisk;II[J)I"⟩ method_4_code 5 (some .int) [(0, 10, 13, 13), (0, 10, 17, 15)] : Cond) ∈ ew_T := ew_mem 282 rfl rfl
theorem ew_283 : (.methodLink "ExtentDiskLaw" 17 ⟨"ExtentDisk", "fill", "(II)I"⟩ : Cond) ∈ ew_T := ew_mem 283 (by decide +kernel) (by decide +kernel)
theorem ew_284 : (.instanceMethod ⟨"ExtentDisk", "fill", "(II)I"⟩ : Cond) ∈ ew_T := ew_mem 284 (by decide +kernel) (by decide +kernel)
theorem ew_285 : (.selects "ExtentDisk" ⟨"ExtentDisk", "fill", "(II)I"⟩ ⟨"ExtentDisk", "fill", "(II)I"⟩ : Cond) ∈ ew_T := ew_mem 285 (by decide +kernel) (by decide +kernel)
set_option maxRecDepth 20000 in
theorem ew_286 : (.code ⟨"ExtentDisk", "fill", "(II)I"⟩ prog_1_method_3_code 4 (some .int) : Cond) ∈ ew_T := ew_mem 286 rfl rfl
theorem ew_287 : (.constant "ExtentDisk" 83 100000 : Cond) ∈ ew_T := ew_mem 287 (by decide +kernel) (by decide +kernel)
theorem ew_289 : (.methodLink "ExtentDiskLaw" 76 ⟨"ExtentDiskLaw", "drop", "(LExtentDisk;[J)I"⟩ : Cond) ∈ ew_T := ew_mem 289 (by decide +kernel) (by decide +kernel)
theorem ew_290 : (.static ⟨"ExtentDiskLaw", "drop", "(LExtentDisk;[J)I"⟩ : Cond) ∈ ew_T := ew_mem 290 (by decide +kernel) (by decide +kernel)
set_option maxRecDepth 20000 in
theorem ew_291 : (.codeWith ⟨"ExtentDiskLaw", "drop", "(LExtentDisk;[J)I"⟩ method_5_code 3 (some .int) [(0, 8, 11, 15)] : Cond) ∈ ew_T := ew_mem 291 rfl rfl
theorem ew_292 : (.methodLink "ExtentDiskLaw" 21 ⟨"ExtentDisk", "drop", "()I"⟩ : Cond) ∈ ew_T := ew_mem 292 (by decide +kernel) (by decide +kernel)
theorem ew_293 : (.instanceMethod ⟨"ExtentDisk", "drop", "()I"⟩ : Cond) ∈ ew_T := ew_mem 293 (by decide +kernel) (by decide +kernel)
theorem ew_294 : (.selects "ExtentDisk" ⟨"ExtentDisk", "drop", "()I"⟩ ⟨"ExtentDisk", "drop", "()I"⟩ : Cond) ∈ ew_T := ew_mem 294 (by decide +kernel) (by decide +kernel)
set_option maxRecDepth 20000 in
theorem ew_295 : (.code ⟨"ExtentDisk", "drop", "()I"⟩ prog_1_method_4_code 2 (some .int) : Cond) ∈ ew_T := ew_mem 295 rfl rfl
theorem ew_297 : (.methodLink "ExtentDiskLaw" 80 ⟨"ExtentDiskLaw", "wish", "(LExtentDisk;II[J)I"⟩ : Cond) ∈ ew_T := ew_mem 297 (by decide +kernel) (by decide +kernel)
theorem ew_298 : (.static ⟨"ExtentDiskLaw", "wish", "(LExtentDisk;II[J)I"⟩ : Cond) ∈ ew_T := ew_mem 298 (by decide +kernel) (by decide +kernel)
set_option maxRecDepth 20000 in
theorem ew_299 : (.codeWith ⟨"ExtentDiskLaw", "wish", "(LExtentDisk;II[J)I"⟩ method_6_code 5 (some .int) [(0, 10, 13, 13), (0, 10, 17, 15)] : Cond) ∈ ew_T := ew_mem 299 rfl rfl
theorem ew_300 : (.methodLink "ExtentDiskLaw" 25 ⟨"ExtentDisk", "wish", "(II)I"⟩ : Cond) ∈ ew_T := ew_mem 300 (by decide +kernel) (by decide +kernel)
theorem ew_301 : (.instanceMethod ⟨"ExtentDisk", "wish", "(II)I"⟩ : Cond) ∈ ew_T := ew_mem 301 (by decide +kernel) (by decide +kernel)
theorem ew_302 : (.selects "ExtentDisk" ⟨"ExtentDisk", "wish", "(II)I"⟩ ⟨"ExtentDisk", "wish", "(II)I"⟩ : Cond) ∈ ew_T := ew_mem 302 (by decide +kernel) (by decide +kernel)
set_option maxRecDepth 20000 in
theorem ew_303 : (.code ⟨"ExtentDisk", "wish", "(II)I"⟩ prog_1_method_5_code 4 (some .int) : Cond) ∈ ew_T := ew_mem 303 rfl rfl
theorem ew_305 : (.methodLink "ExtentDiskLaw" 83 ⟨"ExtentDiskLaw", "note", "(LExtentDisk;I[J)I"⟩ : Cond) ∈ ew_T := ew_mem 305 (by decide +kernel) (by decide +kernel)
theorem ew_306 : (.static ⟨"ExtentDiskLaw", "note", "(LExtentDisk;I[J)I"⟩ : Cond) ∈ ew_T := ew_mem 306 (by decide +kernel) (by decide +kernel)
set_option maxRecDepth 20000 in
theorem ew_307 : (.codeWith ⟨"ExtentDiskLaw", "note", "(LExtentDisk;I[J)I"⟩ method_7_code 4 (some .int) [(0, 9, 12, 13), (0, 9, 15, 15)] : Cond) ∈ ew_T := ew_mem 307 rfl rfl
theorem ew_308 : (.methodLink "ExtentDiskLaw" 28 ⟨"ExtentDisk", "note", "(I)I"⟩ : Cond) ∈ ew_T := ew_mem 308 (by decide +kernel) (by decide +kernel)
theorem ew_309 : (.instanceMethod ⟨"ExtentDisk", "note", "(I)I"⟩ : Cond) ∈ ew_T := ew_mem 309 (by decide +kernel) (by decide +kernel)
theorem ew_310 : (.selects "ExtentDisk" ⟨"ExtentDisk", "note", "(I)I"⟩ ⟨"ExtentDisk", "note", "(I)I"⟩ : Cond) ∈ ew_T := ew_mem 310 (by decide +kernel) (by decide +kernel)
set_option maxRecDepth 20000 in
theorem ew_311 : (.code ⟨"ExtentDisk", "note", "(I)I"⟩ prog_1_method_6_code 2 (some .int) : Cond) ∈ ew_T := ew_mem 311 rfl rfl
theorem ew_312 : (.methodLink "ExtentDiskLaw" 87 ⟨"ExtentDiskLaw", "change", "(LExtentDisk;III[J)I"⟩ : Cond) ∈ ew_T := ew_mem 312 (by decide +kernel) (by decide +kernel)
theorem ew_313 : (.static ⟨"ExtentDiskLaw", "change", "(LExtentDisk;III[J)I"⟩ : Cond) ∈ ew_T := ew_mem 313 (by decide +kernel) (by decide +kernel)
set_option maxRecDepth 20000 in
theorem ew_314 : (.codeWith ⟨"ExtentDiskLaw", "change", "(LExtentDisk;III[J)I"⟩ method_8_code 6 (some .int) [(0, 12, 15, 15)] : Cond) ∈ ew_T := ew_mem 314 rfl rfl
theorem ew_315 : (.methodLink "ExtentDiskLaw" 32 ⟨"ExtentDisk", "change", "(III)I"⟩ : Cond) ∈ ew_T := ew_mem 315 (by decide +kernel) (by decide +kernel)
theorem ew_316 : (.instanceMethod ⟨"ExtentDisk", "change", "(III)I"⟩ : Cond) ∈ ew_T := ew_mem 316 (by decide +kernel) (by decide +kernel)
theorem ew_317 : (.selects "ExtentDisk" ⟨"ExtentDisk", "change", "(III)I"⟩ ⟨"ExtentDisk", "change", "(III)I"⟩ : Cond) ∈ ew_T := ew_mem 317 (by decide +kernel) (by decide +kernel)
set_option maxRecDepth 20000 in
theorem ew_318 : (.code ⟨"ExtentDisk", "change", "(III)I"⟩ prog_1_method_7_code 5 (some .int) : Cond) ∈ ew_T := ew_mem 318 rfl rfl
theorem ew_319 : (.methodLink "ExtentDisk" 93 ⟨"ExtentDisk$Manifest", "follow", "(LExtentDisk$Manifest;II)V"⟩ : Cond) ∈ ew_T := ew_mem 319 (by decide +kernel) (by decide +kernel)
theorem ew_320 : (.instanceMethod ⟨"ExtentDisk$Manifest", "follow", "(LExtentDisk$Manifest;II)V"⟩ : Cond) ∈ ew_T := ew_mem 320 (by decide +kernel) (by decide +kernel)
theorem ew_321 : (.selects "ExtentDisk$Manifest" ⟨"ExtentDisk$Manifest", "follow", "(LExtentDisk$Manifest;II)V"⟩ ⟨"ExtentDisk$Manifest", "follow", "(LExtentDisk$Manifest;II)V"⟩ : Cond) ∈ ew_T := ew_mem 321 (by decide +kernel) (by decide +kernel)
set_option maxRecDepth 20000 in
theorem ew_322 : (.code ⟨"ExtentDisk$Manifest", "follow", "(LExtentDisk$Manifest;II)V"⟩ prog_2_method_5_code 6 none : Cond) ∈ ew_T := ew_mem 322 rfl rfl
theorem ew_323 : (.methodLink "ExtentDisk" 97 ⟨"ExtentDisk$Manifest", "takeNotes", "([I)V"⟩ : Cond) ∈ ew_T := ew_mem 323 (by decide +kernel) (by decide +kernel)
theorem ew_324 : (.instanceMethod ⟨"ExtentDisk$Manifest", "takeNotes", "([I)V"⟩ : Cond) ∈ ew_T := ew_mem 324 (by decide +kernel) (by decide +kernel)
theorem ew_325 : (.selects "ExtentDisk$Manifest" ⟨"ExtentDisk$Manifest", "takeNotes", "([I)V"⟩ ⟨"ExtentDisk$Manifest", "takeNotes", "([I)V"⟩ : Cond) ∈ ew_T := ew_mem 325 (by decide +kernel) (by decide +kernel)
set_option maxRecDepth 20000 in
theorem ew_326 : (.code ⟨"ExtentDisk$Manifest", "takeNotes", "([I)V"⟩ prog_2_method_6_code 3 none : Cond) ∈ ew_T := ew_mem 326 rfl rfl
theorem ew_327 : (.methodLink "ExtentDisk" 101 ⟨"ExtentDisk", "blocksFor", "(I)I"⟩ : Cond) ∈ ew_T := ew_mem 327 (by decide +kernel) (by decide +kernel)
theorem ew_328 : (.static ⟨"ExtentDisk", "blocksFor", "(I)I"⟩ : Cond) ∈ ew_T := ew_mem 328 (by decide +kernel) (by decide +kernel)
set_option maxRecDepth 20000 in
theorem ew_329 : (.code ⟨"ExtentDisk", "blocksFor", "(I)I"⟩ prog_1_method_16_code 1 (some .int) : Cond) ∈ ew_T := ew_mem 329 rfl rfl
theorem ew_330 : (.methodLink "ExtentDisk" 105 ⟨"ExtentDisk", "firstFreeRow", "(I)I"⟩ : Cond) ∈ ew_T := ew_mem 330 (by decide +kernel) (by decide +kernel)
theorem ew_332 : (.instanceMethod ⟨"ExtentDisk", "firstFreeRow", "(I)I"⟩ : Cond) ∈ ew_T := ew_mem 332 (by decide +kernel) (by decide +kernel)
set_option maxRecDepth 20000 in
theorem ew_333 : (.code ⟨"ExtentDisk", "firstFreeRow", "(I)I"⟩ prog_1_method_18_code 4 (some .int) : Cond) ∈ ew_T := ew_mem 333 rfl rfl
theorem ew_334 : (.methodLink "ExtentDisk" 170 ⟨"ExtentDisk$Manifest", "countTenants", "([I)V"⟩ : Cond) ∈ ew_T := ew_mem 334 (by decide +kernel) (by decide +kernel)
theorem ew_335 : (.instanceMethod ⟨"ExtentDisk$Manifest", "countTenants", "([I)V"⟩ : Cond) ∈ ew_T := ew_mem 335 (by decide +kernel) (by decide +kernel)
theorem ew_336 : (.selects "ExtentDisk$Manifest" ⟨"ExtentDisk$Manifest", "countTenants", "([I)V"⟩ ⟨"ExtentDisk$Manifest", "countTenants", "([I)V"⟩ : Cond) ∈ ew_T := ew_mem 336 (by decide +kernel) (by decide +kernel)
set_option maxRecDepth 20000 in
theorem ew_337 : (.code ⟨"ExtentDisk$Manifest", "countTenants", "([I)V"⟩ prog_2_method_7_code 5 none : Cond) ∈ ew_T := ew_mem 337 rfl rfl
theorem ew_339 : (.methodLink "ExtentDisk$Manifest" 48 ⟨"java/lang/Math", "max", "(II)I"⟩ : Cond) ∈ ew_T := ew_mem 339 (by decide +kernel) (by decide +kernel)
theorem ew_340 : (.methodLink "ExtentDisk" 108 ⟨"ExtentDisk$Manifest", "add", "(III)Z"⟩ : Cond) ∈ ew_T := ew_mem 340 (by decide +kernel) (by decide +kernel)
theorem ew_341 : (.methodLink "ExtentDisk" 112 ⟨"ExtentDisk", "carryOut", "(I)I"⟩ : Cond) ∈ ew_T := ew_mem 341 (by decide +kernel) (by decide +kernel)
theorem ew_343 : (.instanceMethod ⟨"ExtentDisk", "carryOut", "(I)I"⟩ : Cond) ∈ ew_T := ew_mem 343 (by decide +kernel) (by decide +kernel)
set_option maxRecDepth 20000 in
theorem ew_344 : (.code ⟨"ExtentDisk", "carryOut", "(I)I"⟩ prog_1_method_19_code 4 (some .int) : Cond) ∈ ew_T := ew_mem 344 rfl rfl
theorem ew_345 : (.methodLink "ExtentDisk" 176 ⟨"ExtentDisk$Platter", "writeBlock", "(I[BI)Z"⟩ : Cond) ∈ ew_T := ew_mem 345 (by decide +kernel) (by decide +kernel)
theorem ew_346 : (.instanceMethod ⟨"ExtentDisk$Platter", "writeBlock", "(I[BI)Z"⟩ : Cond) ∈ ew_T := ew_mem 346 (by decide +kernel) (by decide +kernel)
theorem ew_347 : (.selects "ExtentDisk$Platter" ⟨"ExtentDisk$Platter", "writeBlock", "(I[BI)Z"⟩ ⟨"ExtentDisk$Platter", "writeBlock", "(I[BI)Z"⟩ : Cond) ∈ ew_T := ew_mem 347 (by decide +kernel) (by decide +kernel)
set_option maxRecDepth 20000 in
theorem ew_348 : (.code ⟨"ExtentDisk$Platter", "writeBlock", "(I[BI)Z"⟩ prog_3_method_3_code 5 (some .boolean) : Cond) ∈ ew_T := ew_mem 348 rfl rfl
theorem ew_349 : (.methodLink "ExtentDisk$Platter" 23 ⟨"java/lang/System", "arraycopy", "(Ljava/lang/Object;ILjava/lang/Object;II)V"⟩ : Cond) ∈ ew_T := ew_mem 349 (by decide +kernel) (by decide +kernel)
theorem ew_350 : (.methodLink "ExtentDisk$Platter" 32 ⟨"ExtentDisk$Platter", "limitPower", "(I)V"⟩ : Cond) ∈ ew_T := ew_mem 350 (by decide +kernel) (by decide +kernel)
theorem ew_351 : (.methodLink "ExtentDisk" 141 ⟨"ExtentDisk", "forget", "()V"⟩ : Cond) ∈ ew_T := ew_mem 351 (by decide +kernel) (by decide +kernel)
theorem ew_353 : (.instanceMethod ⟨"ExtentDisk", "forget", "()V"⟩ : Cond) ∈ ew_T := ew_mem 353 (by decide +kernel) (by decide +kernel)
set_option maxRecDepth 20000 in
theorem ew_354 : (.code ⟨"ExtentDisk", "forget", "()V"⟩ prog_1_method_21_code 1 none : Cond) ∈ ew_T := ew_mem 354 rfl rfl
theorem ew_355 : (.methodLink "ExtentDisk" 184 ⟨"ExtentDisk$Manifest", "clear", "()V"⟩ : Cond) ∈ ew_T := ew_mem 355 (by decide +kernel) (by decide +kernel)
theorem ew_356 : (.methodLink "ExtentDisk" 187 ⟨"java/util/Arrays", "fill", "([II)V"⟩ : Cond) ∈ ew_T := ew_mem 356 (by decide +kernel) (by decide +kernel)
theorem ew_357 : (.methodLink "ExtentDisk" 180 ⟨"ExtentDisk$Manifest", "store", "([B)V"⟩ : Cond) ∈ ew_T := ew_mem 357 (by decide +kernel) (by decide +kernel)
theorem ew_358 : (.instanceMethod ⟨"ExtentDisk$Manifest", "store", "([B)V"⟩ : Cond) ∈ ew_T := ew_mem 358 (by decide +kernel) (by decide +kernel)
theorem ew_359 : (.selects "ExtentDisk$Manifest" ⟨"ExtentDisk$Manifest", "store", "([B)V"⟩ ⟨"ExtentDisk$Manifest", "store", "([B)V"⟩ : Cond) ∈ ew_T := ew_mem 359 (by decide +kernel) (by decide +kernel)
set_option maxRecDepth 20000 in
theorem ew_360 : (.code ⟨"ExtentDisk$Manifest", "store", "([B)V"⟩ prog_2_method_8_code 4 none : Cond) ∈ ew_T := ew_mem 360 rfl rfl
theorem ew_361 : (.methodLink "ExtentDisk$Manifest" 54 ⟨"ExtentDisk$Manifest", "storeInt", "([BII)V"⟩ : Cond) ∈ ew_T := ew_mem 361 (by decide +kernel) (by decide +kernel)
theorem ew_362 : (.static ⟨"ExtentDisk$Manifest", "storeInt", "([BII)V"⟩ : Cond) ∈ ew_T := ew_mem 362 (by decide +kernel) (by decide +kernel)
set_option maxRecDepth 20000 in
theorem ew_363 : (.code ⟨"ExtentDisk$Manifest", "storeInt", "([BII)V"⟩ prog_2_method_10_code 3 none : Cond) ∈ ew_T := ew_mem 363 rfl rfl
theorem ew_364 : (.methodLink "ExtentDiskLaw" 91 ⟨"ExtentDiskLaw", "extent", "(LExtentDisk;II[J)I"⟩ : Cond) ∈ ew_T := ew_mem 364 (by decide +kernel) (by decide +kernel)
theorem ew_365 : (.static ⟨"ExtentDiskLaw", "extent", "(LExtentDisk;II[J)I"⟩ : Cond) ∈ ew_T := ew_mem 365 (by decide +kernel) (by decide +kernel)
set_option maxRecDepth 20000 in
theorem ew_366 : (.codeWith ⟨"ExtentDiskLaw", "extent", "(LExtentDisk;II[J)I"⟩ method_9_code 5 (some .int) [(0, 10, 13, 13)] : Cond) ∈ ew_T := ew_mem 366 rfl rfl
theorem ew_367 : (.methodLink "ExtentDiskLaw" 36 ⟨"ExtentDisk", "extent", "(II)I"⟩ : Cond) ∈ ew_T := ew_mem 367 (by decide +kernel) (by decide +kernel)
theorem ew_368 : (.instanceMethod ⟨"ExtentDisk", "extent", "(II)I"⟩ : Cond) ∈ ew_T := ew_mem 368 (by decide +kernel) (by decide +kernel)
theorem ew_369 : (.selects "ExtentDisk" ⟨"ExtentDisk", "extent", "(II)I"⟩ ⟨"ExtentDisk", "extent", "(II)I"⟩ : Cond) ∈ ew_T := ew_mem 369 (by decide +kernel) (by decide +kernel)
set_option maxRecDepth 20000 in
theorem ew_370 : (.code ⟨"ExtentDisk", "extent", "(II)I"⟩ prog_1_method_8_code 3 (some .int) : Cond) ∈ ew_T := ew_mem 370 rfl rfl
theorem ew_371 : (.methodLink "ExtentDisk" 115 ⟨"ExtentDisk$Manifest", "holds", "(I)Z"⟩ : Cond) ∈ ew_T := ew_mem 371 (by decide +kernel) (by decide +kernel)
theorem ew_372 : (.instanceMethod ⟨"ExtentDisk$Manifest", "holds", "(I)Z"⟩ : Cond) ∈ ew_T := ew_mem 372 (by decide +kernel) (by decide +kernel)
theorem ew_373 : (.selects "ExtentDisk$Manifest" ⟨"ExtentDisk$Manifest", "holds", "(I)Z"⟩ ⟨"ExtentDisk$Manifest", "holds", "(I)Z"⟩ : Cond) ∈ ew_T := ew_mem 373 (by decide +kernel) (by decide +kernel)
set_option maxRecDepth 20000 in
theorem ew_374 : (.code ⟨"ExtentDisk$Manifest", "holds", "(I)Z"⟩ prog_2_method_2_code 2 (some .boolean) : Cond) ∈ ew_T := ew_mem 374 rfl rfl
theorem ew_377 : (.methodLink "ExtentDiskLaw" 94 ⟨"ExtentDiskLaw", "byteAt", "(LExtentDisk;II[J)I"⟩ : Cond) ∈ ew_T := ew_mem 377 (by decide +kernel) (by decide +kernel)
theorem ew_378 : (.static ⟨"ExtentDiskLaw", "byteAt", "(LExtentDisk;II[J)I"⟩ : Cond) ∈ ew_T := ew_mem 378 (by decide +kernel) (by decide +kernel)
set_option maxRecDepth 20000 in
theorem ew_379 : (.codeWith ⟨"ExtentDiskLaw", "byteAt", "(LExtentDisk;II[J)I"⟩ method_10_code 5 (some .int) [(0, 10, 13, 13)] : Cond) ∈ ew_T := ew_mem 379 rfl rfl
theorem ew_380 : (.methodLink "ExtentDiskLaw" 39 ⟨"ExtentDisk", "byteAt", "(II)I"⟩ : Cond) ∈ ew_T := ew_mem 380 (by decide +kernel) (by decide +kernel)
theorem ew_381 : (.instanceMethod ⟨"ExtentDisk", "byteAt", "(II)I"⟩ : Cond) ∈ ew_T := ew_mem 381 (by decide +kernel) (by decide +kernel)
theorem ew_382 : (.selects "ExtentDisk" ⟨"ExtentDisk", "byteAt", "(II)I"⟩ ⟨"ExtentDisk", "byteAt", "(II)I"⟩ : Cond) ∈ ew_T := ew_mem 382 (by decide +kernel) (by decide +kernel)
set_option maxRecDepth 20000 in
theorem ew_383 : (.code ⟨"ExtentDisk", "byteAt", "(II)I"⟩ prog_1_method_9_code 3 (some .int) : Cond) ∈ ew_T := ew_mem 383 rfl rfl
theorem ew_385 : (.methodLink "ExtentDisk" 133 ⟨"ExtentDisk$Platter", "read", "(I)I"⟩ : Cond) ∈ ew_T := ew_mem 385 (by decide +kernel) (by decide +kernel)
theorem ew_386 : (.methodLink "ExtentDiskLaw" 97 ⟨"ExtentDiskLaw", "crash", "(LExtentDisk;I)I"⟩ : Cond) ∈ ew_T := ew_mem 386 (by decide +kernel) (by decide +kernel)
theorem ew_387 : (.static ⟨"ExtentDiskLaw", "crash", "(LExtentDisk;I)I"⟩ : Cond) ∈ ew_T := ew_mem 387 (by decide +kernel) (by decide +kernel)
set_option maxRecDepth 20000 in
theorem ew_388 : (.codeWith ⟨"ExtentDiskLaw", "crash", "(LExtentDisk;I)I"⟩ method_11_code 3 (some .int) [(0, 5, 8, 13), (0, 5, 11, 15)] : Cond) ∈ ew_T := ew_mem 388 rfl rfl
theorem ew_389 : (.methodLink "ExtentDiskLaw" 42 ⟨"ExtentDisk", "crash", "(I)V"⟩ : Cond) ∈ ew_T := ew_mem 389 (by decide +kernel) (by decide +kernel)
theorem ew_390 : (.instanceMethod ⟨"ExtentDisk", "crash", "(I)V"⟩ : Cond) ∈ ew_T := ew_mem 390 (by decide +kernel) (by decide +kernel)
theorem ew_391 : (.selects "ExtentDisk" ⟨"ExtentDisk", "crash", "(I)V"⟩ ⟨"ExtentDisk", "crash", "(I)V"⟩ : Cond) ∈ ew_T := ew_mem 391 (by decide +kernel) (by decide +kernel)
set_option maxRecDepth 20000 in
theorem ew_392 : (.code ⟨"ExtentDisk", "crash", "(I)V"⟩ prog_1_method_10_code 2 none : Cond) ∈ ew_T := ew_mem 392 rfl rfl
theorem ew_394 : (.methodLink "ExtentDiskLaw" 114 ⟨"ExtentDiskLaw", "count", "(LExtentDisk;I[J)I"⟩ : Cond) ∈ ew_T := ew_mem 394 (by decide +kernel) (by decide +kernel)
theorem ew_395 : (.static ⟨"ExtentDiskLaw", "count", "(LExtentDisk;I[J)I"⟩ : Cond) ∈ ew_T := ew_mem 395 (by decide +kernel) (by decide +kernel)
set_option maxRecDepth 20000 in
theorem ew_396 : (.codeWith ⟨"ExtentDiskLaw", "count", "(LExtentDisk;I[J)I"⟩ method_12_code 4 (some .int) [(0, 9, 12, 13), (0, 9, 15, 15)] : Cond) ∈ ew_T := ew_mem 396 rfl rfl
theorem ew_397 : (.methodLink "ExtentDiskLaw" 46 ⟨"ExtentDisk", "count", "(I)I"⟩ : Cond) ∈ ew_T := ew_mem 397 (by decide +kernel) (by decide +kernel)
theorem ew_398 : (.instanceMethod ⟨"ExtentDisk", "count", "(I)I"⟩ : Cond) ∈ ew_T := ew_mem 398 (by decide +kernel) (by decide +kernel)
theorem ew_399 : (.selects "ExtentDisk" ⟨"ExtentDisk", "count", "(I)I"⟩ ⟨"ExtentDisk", "count", "(I)I"⟩ : Cond) ∈ ew_T := ew_mem 399 (by decide +kernel) (by decide +kernel)
set_option maxRecDepth 20000 in
theorem ew_400 : (.code ⟨"ExtentDisk", "count", "(I)I"⟩ prog_1_method_14_code 2 (some .int) : Cond) ∈ ew_T := ew_mem 400 rfl rfl
theorem ew_401 : (.methodLink "ExtentDisk" 166 ⟨"ExtentDisk", "freeBlocks", "()I"⟩ : Cond) ∈ ew_T := ew_mem 401 (by decide +kernel) (by decide +kernel)
theorem ew_403 : (.instanceMethod ⟨"ExtentDisk", "freeBlocks", "()I"⟩ : Cond) ∈ ew_T := ew_mem 403 (by decide +kernel) (by decide +kernel)
set_option maxRecDepth 20000 in
theorem ew_404 : (.code ⟨"ExtentDisk", "freeBlocks", "()I"⟩ prog_1_method_17_code 3 (some .int) : Cond) ∈ ew_T := ew_mem 404 rfl rfl
theorem ew_405 : (.methodLink "ExtentDiskLaw" 117 ⟨"ExtentDiskLaw", "doubled", "(LExtentDisk;[J)I"⟩ : Cond) ∈ ew_T := ew_mem 405 (by decide +kernel) (by decide +kernel)
theorem ew_406 : (.static ⟨"ExtentDiskLaw", "doubled", "(LExtentDisk;[J)I"⟩ : Cond) ∈ ew_T := ew_mem 406 (by decide +kernel) (by decide +kernel)
set_option maxRecDepth 20000 in
theorem ew_407 : (.codeWith ⟨"ExtentDiskLaw", "doubled", "(LExtentDisk;[J)I"⟩ method_13_code 3 (some .int) [(0, 8, 11, 15)] : Cond) ∈ ew_T := ew_mem 407 rfl rfl
theorem ew_408 : (.methodLink "ExtentDiskLaw" 49 ⟨"ExtentDisk", "doubled", "()I"⟩ : Cond) ∈ ew_T := ew_mem 408 (by decide +kernel) (by decide +kernel)
theorem ew_409 : (.instanceMethod ⟨"ExtentDisk", "doubled", "()I"⟩ : Cond) ∈ ew_T := ew_mem 409 (by decide +kernel) (by decide +kernel)
theorem ew_410 : (.selects "ExtentDisk" ⟨"ExtentDisk", "doubled", "()I"⟩ ⟨"ExtentDisk", "doubled", "()I"⟩ : Cond) ∈ ew_T := ew_mem 410 (by decide +kernel) (by decide +kernel)
set_option maxRecDepth 20000 in
theorem ew_411 : (.code ⟨"ExtentDisk", "doubled", "()I"⟩ prog_1_method_15_code 3 (some .int) : Cond) ∈ ew_T := ew_mem 411 rfl rfl
theorem ew_412 : (.classLink "ExtentDiskLaw" 60 "ExtentDiskModel" : Cond) ∈ ew_T := ew_mem 412 (by decide +kernel) (by decide +kernel)
theorem ew_413 : (.instantiable "ExtentDiskModel" 17 : Cond) ∈ ew_T := ew_mem 413 (by decide +kernel) (by decide +kernel)
theorem ew_414 : (.methodLink "ExtentDiskLaw" 62 ⟨"ExtentDiskModel", "<init>", "(I)V"⟩ : Cond) ∈ ew_T := ew_mem 414 (by decide +kernel) (by decide +kernel)
theorem ew_415 : (.instanceMethod ⟨"ExtentDiskModel", "<init>", "(I)V"⟩ : Cond) ∈ ew_T := ew_mem 415 (by decide +kernel) (by decide +kernel)
set_option maxRecDepth 20000 in
theorem ew_416 : (.code ⟨"ExtentDiskModel", "<init>", "(I)V"⟩ prog_6_method_1_code 2 none : Cond) ∈ ew_T := ew_mem 416 rfl rfl
theorem ew_417 : (.methodLink "ExtentDiskModel" 1 ⟨"java/lang/Object", "<init>", "()V"⟩ : Cond) ∈ ew_T := ew_mem 417 (by decide +kernel) (by decide +kernel)
theorem ew_418 : (.constant "ExtentDiskModel" 29 524288 : Cond) ∈ ew_T := ew_mem 418 (by decide +kernel) (by decide +kernel)
theorem ew_419 : (.fieldLink "ExtentDiskModel" 47 "ExtentDiskModel" "code" "I" : Cond) ∈ ew_T := ew_mem 419 (by decide +kernel) (by decide +kernel)
theorem ew_420 : (.fieldLink "ExtentDiskModel" 44 "ExtentDiskModel" "blocks" "I" : Cond) ∈ ew_T := ew_mem 420 (by decide +kernel) (by decide +kernel)
theorem ew_421 : (.fieldLink "ExtentDiskModel" 50 "ExtentDiskModel" "down" "Z" : Cond) ∈ ew_T := ew_mem 421 (by decide +kernel) (by decide +kernel)
theorem ew_422 : (.fieldLink "ExtentDiskModel" 75 "ExtentDiskModel" "writes" "I" : Cond) ∈ ew_T := ew_mem 422 (by decide +kernel) (by decide +kernel)
theorem ew_423 : (.fieldLink "ExtentDiskModel" 7 "ExtentDiskModel" "left" "I" : Cond) ∈ ew_T := ew_mem 423 (by decide +kernel) (by decide +kernel)
theorem ew_424 : (.fieldLink "ExtentDiskModel" 58 "ExtentDiskModel" "extents" "I" : Cond) ∈ ew_T := ew_mem 424 (by decide +kernel) (by decide +kernel)
theorem ew_425 : (.fieldLink "ExtentDiskModel" 13 "ExtentDiskModel" "label" "[I" : Cond) ∈ ew_T := ew_mem 425 (by decide +kernel) (by decide +kernel)
theorem ew_426 : (.fieldLink "ExtentDiskModel" 17 "ExtentDiskModel" "first" "[I" : Cond) ∈ ew_T := ew_mem 426 (by decide +kernel) (by decide +kernel)
theorem ew_427 : (.fieldLink "ExtentDiskModel" 20 "ExtentDiskModel" "many" "[I" : Cond) ∈ ew_T := ew_mem 427 (by decide +kernel) (by decide +kernel)
theorem ew_428 : (.fieldLink "ExtentDiskModel" 23 "ExtentDiskModel" "bytes" "[I" : Cond) ∈ ew_T := ew_mem 428 (by decide +kernel) (by decide +kernel)
theorem ew_429 : (.fieldLink "ExtentDiskModel" 26 "ExtentDiskModel" "note" "[I" : Cond) ∈ ew_T := ew_mem 429 (by decide +kernel) (by decide +kernel)
theorem ew_430 : (.fieldLink "ExtentDiskModel" 68 "ExtentDiskModel" "changes" "I" : Cond) ∈ ew_T := ew_mem 430 (by decide +kernel) (by decide +kernel)
theorem ew_431 : (.fieldLink "ExtentDiskModel" 30 "ExtentDiskModel" "disk" "[B" : Cond) ∈ ew_T := ew_mem 431 (by decide +kernel) (by decide +kernel)
theorem ew_432 : (.fieldLink "ExtentDiskModel" 34 "ExtentDiskModel" "used" "[Z" : Cond) ∈ ew_T := ew_mem 432 (by decide +kernel) (by decide +kernel)
theorem ew_433 : (.fieldLink "ExtentDiskModel" 38 "ExtentDiskModel" "wish" "[I" : Cond) ∈ ew_T := ew_mem 433 (by decide +kernel) (by decide +kernel)
theorem ew_434 : (.fieldLink "ExtentDiskModel" 54 "ExtentDiskModel" "taped" "I" : Cond) ∈ ew_T := ew_mem 434 (by decide +kernel) (by decide +kernel)
theorem ew_435 : (.fieldLink "ExtentDiskModel" 41 "ExtentDiskModel" "tape" "[B" : Cond) ∈ ew_T := ew_mem 435 (by decide +kernel) (by decide +kernel)
theorem ew_436 : (.lays "ExtentDiskModel" "ExtentDiskModel" "code" "I" : Cond) ∈ ew_T := ew_mem 436 (by decide +kernel) (by decide +kernel)
theorem ew_438 : (.laysFinal "ExtentDiskModel" "ExtentDiskModel" "blocks" "I" : Cond) ∈ ew_T := ew_mem 438 (by decide +kernel) (by decide +kernel)
theorem ew_440 : (.lays "ExtentDiskModel" "ExtentDiskModel" "down" "Z" : Cond) ∈ ew_T := ew_mem 440 (by decide +kernel) (by decide +kernel)
theorem ew_442 : (.lays "ExtentDiskModel" "ExtentDiskModel" "writes" "I" : Cond) ∈ ew_T := ew_mem 442 (by decide +kernel) (by decide +kernel)
theorem ew_444 : (.lays "ExtentDiskModel" "ExtentDiskModel" "left" "I" : Cond) ∈ ew_T := ew_mem 444 (by decide +kernel) (by decide +kernel)
theorem ew_446 : (.lays "ExtentDiskModel" "ExtentDiskModel" "extents" "I" : Cond) ∈ ew_T := ew_mem 446 (by decide +kernel) (by decide +kernel)
theorem ew_448 : (.laysFinal "ExtentDiskModel" "ExtentDiskModel" "label" "[I" : Cond) ∈ ew_T := ew_mem 448 (by decide +kernel) (by decide +kernel)
theorem ew_450 : (.laysFinal "ExtentDiskModel" "ExtentDiskModel" "first" "[I" : Cond) ∈ ew_T := ew_mem 450 (by decide +kernel) (by decide +kernel)
theorem ew_452 : (.laysFinal "ExtentDiskModel" "ExtentDiskModel" "many" "[I" : Cond) ∈ ew_T := ew_mem 452 (by decide +kernel) (by decide +kernel)
theorem ew_454 : (.laysFinal "ExtentDiskModel" "ExtentDiskModel" "bytes" "[I" : Cond) ∈ ew_T := ew_mem 454 (by decide +kernel) (by decide +kernel)
theorem ew_456 : (.laysFinal "ExtentDiskModel" "ExtentDiskModel" "note" "[I" : Cond) ∈ ew_T := ew_mem 456 (by decide +kernel) (by decide +kernel)
theorem ew_458 : (.lays "ExtentDiskModel" "ExtentDiskModel" "changes" "I" : Cond) ∈ ew_T := ew_mem 458 (by decide +kernel) (by decide +kernel)
theorem ew_460 : (.laysFinal "ExtentDiskModel" "ExtentDiskModel" "disk" "[B" : Cond) ∈ ew_T := ew_mem 460 (by decide +kernel) (by decide +kernel)
theorem ew_462 : (.laysFinal "ExtentDiskModel" "ExtentDiskModel" "used" "[Z" : Cond) ∈ ew_T := ew_mem 462 (by decide +kernel) (by decide +kernel)
theorem ew_464 : (.laysFinal "ExtentDiskModel" "ExtentDiskModel" "wish" "[I" : Cond) ∈ ew_T := ew_mem 464 (by decide +kernel) (by decide +kernel)
theorem ew_466 : (.lays "ExtentDiskModel" "ExtentDiskModel" "taped" "I" : Cond) ∈ ew_T := ew_mem 466 (by decide +kernel) (by decide +kernel)
theorem ew_468 : (.laysFinal "ExtentDiskModel" "ExtentDiskModel" "tape" "[B" : Cond) ∈ ew_T := ew_mem 468 (by decide +kernel) (by decide +kernel)
theorem ew_471 : (.arrayClass .boolean : Cond) ∈ ew_T := ew_mem 471 (by decide +kernel) (by decide +kernel)
theorem ew_472 : (.methodLink "ExtentDiskLaw" 69 ⟨"ExtentDiskModel", "thrown", "()I"⟩ : Cond) ∈ ew_T := ew_mem 472 (by decide +kernel) (by decide +kernel)
theorem ew_473 : (.instanceMethod ⟨"ExtentDiskModel", "thrown", "()I"⟩ : Cond) ∈ ew_T := ew_mem 473 (by decide +kernel) (by decide +kernel)
theorem ew_474 : (.selects "ExtentDiskModel" ⟨"ExtentDiskModel", "thrown", "()I"⟩ ⟨"ExtentDiskModel", "thrown", "()I"⟩ : Cond) ∈ ew_T := ew_mem 474 (by decide +kernel) (by decide +kernel)
set_option maxRecDepth 20000 in
theorem ew_475 : (.code ⟨"ExtentDiskModel", "thrown", "()I"⟩ prog_6_method_2_code 1 (some .int) : Cond) ∈ ew_T := ew_mem 475 rfl rfl
theorem ew_476 : (.methodLink "ExtentDiskLaw" 68 ⟨"ExtentDiskModel", "put", "(JI)I"⟩ : Cond) ∈ ew_T := ew_mem 476 (by decide +kernel) (by decide +kernel)
theorem ew_477 : (.instanceMethod ⟨"ExtentDiskModel", "put", "(JI)I"⟩ : Cond) ∈ ew_T := ew_mem 477 (by decide +kernel) (by decide +kernel)
theorem ew_478 : (.selects "ExtentDiskModel" ⟨"ExtentDiskModel", "put", "(JI)I"⟩ ⟨"ExtentDiskModel", "put", "(JI)I"⟩ : Cond) ∈ ew_T := ew_mem 478 (by decide +kernel) (by decide +kernel)
set_option maxRecDepth 20000 in
theorem ew_479 : (.code ⟨"ExtentDiskModel", "put", "(JI)I"⟩ prog_6_method_3_code 5 (some .int) : Cond) ∈ ew_T := ew_mem 479 rfl rfl
theorem ew_480 : (.methodLink "ExtentDiskLaw" 75 ⟨"ExtentDiskModel", "fill", "(II)I"⟩ : Cond) ∈ ew_T := ew_mem 480 (by decide +kernel) (by decide +kernel)
theorem ew_481 : (.instanceMethod ⟨"ExtentDiskModel", "fill", "(II)I"⟩ : Cond) ∈ ew_T := ew_mem 481 (by decide +kernel) (by decide +kernel)
theorem ew_482 : (.selects "ExtentDiskModel" ⟨"ExtentDiskModel", "fill", "(II)I"⟩ ⟨"ExtentDiskModel", "fill", "(II)I"⟩ : Cond) ∈ ew_T := ew_mem 482 (by decide +kernel) (by decide +kernel)
set_option maxRecDepth 20000 in
theorem ew_483 : (.code ⟨"ExtentDiskModel", "fill", "(II)I"⟩ prog_6_method_4_code 4 (some .int) : Cond) ∈ ew_T := ew_mem 483 rfl rfl
theorem ew_484 : (.constant "ExtentDiskModel" 57 100000 : Cond) ∈ ew_T := ew_mem 484 (by decide +kernel) (by decide +kernel)
theorem ew_485 : (.methodLink "ExtentDiskLaw" 79 ⟨"ExtentDiskModel", "drop", "()I"⟩ : Cond) ∈ ew_T := ew_mem 485 (by decide +kernel) (by decide +kernel)
theorem ew_486 : (.instanceMethod ⟨"ExtentDiskModel", "drop", "()I"⟩ : Cond) ∈ ew_T := ew_mem 486 (by decide +kernel) (by decide +kernel)
theorem ew_487 : (.selects "ExtentDiskModel" ⟨"ExtentDiskModel", "drop", "()I"⟩ ⟨"ExtentDiskModel", "drop", "()I"⟩ : Cond) ∈ ew_T := ew_mem 487 (by decide +kernel) (by decide +kernel)
set_option maxRecDepth 20000 in
theorem ew_488 : (.code ⟨"ExtentDiskModel", "drop", "()I"⟩ prog_6_method_5_code 2 (some .int) : Cond) ∈ ew_T := ew_mem 488 rfl rfl
theorem ew_489 : (.methodLink "ExtentDiskLaw" 82 ⟨"ExtentDiskModel", "wish", "(II)I"⟩ : Cond) ∈ ew_T := ew_mem 489 (by decide +kernel) (by decide +kernel)
theorem ew_490 : (.instanceMethod ⟨"ExtentDiskModel", "wish", "(II)I"⟩ : Cond) ∈ ew_T := ew_mem 490 (by decide +kernel) (by decide +kernel)
theorem ew_491 : (.selects "ExtentDiskModel" ⟨"ExtentDiskModel", "wish", "(II)I"⟩ ⟨"ExtentDiskModel", "wish", "(II)I"⟩ : Cond) ∈ ew_T := ew_mem 491 (by decide +kernel) (by decide +kernel)
set_option maxRecDepth 20000 in
theorem ew_492 : (.code ⟨"ExtentDiskModel", "wish", "(II)I"⟩ prog_6_method_6_code 4 (some .int) : Cond) ∈ ew_T := ew_mem 492 rfl rfl
theorem ew_493 : (.methodLink "ExtentDiskLaw" 86 ⟨"ExtentDiskModel", "note", "(I)I"⟩ : Cond) ∈ ew_T := ew_mem 493 (by decide +kernel) (by decide +kernel)
theorem ew_494 : (.instanceMethod ⟨"ExtentDiskModel", "note", "(I)I"⟩ : Cond) ∈ ew_T := ew_mem 494 (by decide +kernel) (by decide +kernel)
theorem ew_495 : (.selects "ExtentDiskModel" ⟨"ExtentDiskModel", "note", "(I)I"⟩ ⟨"ExtentDiskModel", "note", "(I)I"⟩ : Cond) ∈ ew_T := ew_mem 495 (by decide +kernel) (by decide +kernel)
set_option maxRecDepth 20000 in
theorem ew_496 : (.code ⟨"ExtentDiskModel", "note", "(I)I"⟩ prog_6_method_7_code 2 (some .int) : Cond) ∈ ew_T := ew_mem 496 rfl rfl
theorem ew_497 : (.methodLink "ExtentDiskLaw" 90 ⟨"ExtentDiskModel", "change", "(III)I"⟩ : Cond) ∈ ew_T := ew_mem 497 (by decide +kernel) (by decide +kernel)
theorem ew_498 : (.instanceMethod ⟨"ExtentDiskModel", "change", "(III)I"⟩ : Cond) ∈ ew_T := ew_mem 498 (by decide +kernel) (by decide +kernel)
theorem ew_499 : (.selects "ExtentDiskModel" ⟨"ExtentDiskModel", "change", "(III)I"⟩ ⟨"ExtentDiskModel", "change", "(III)I"⟩ : Cond) ∈ ew_T := ew_mem 499 (by decide +kernel) (by decide +kernel)
set_option maxRecDepth 20000 in
theorem ew_500 : (.code ⟨"ExtentDiskModel", "change", "(III)I"⟩ prog_6_method_13_code 9 (some .int) : Cond) ∈ ew_T := ew_mem 500 rfl rfl
theorem ew_501 : (.methodLink "ExtentDiskModel" 64 ⟨"ExtentDiskModel", "goes", "(III)Z"⟩ : Cond) ∈ ew_T := ew_mem 501 (by decide +kernel) (by decide +kernel)
theorem ew_503 : (.instanceMethod ⟨"ExtentDiskModel", "goes", "(III)Z"⟩ : Cond) ∈ ew_T := ew_mem 503 (by decide +kernel) (by decide +kernel)
set_option maxRecDepth 20000 in
theorem ew_504 : (.code ⟨"ExtentDiskModel", "goes", "(III)Z"⟩ prog_6_method_10_code 4 (some .boolean) : Cond) ∈ ew_T := ew_mem 504 rfl rfl
theorem ew_505 : (.methodLink "ExtentDiskModel" 71 ⟨"ExtentDiskModel", "placeFor", "(I)I"⟩ : Cond) ∈ ew_T := ew_mem 505 (by decide +kernel) (by decide +kernel)
theorem ew_507 : (.instanceMethod ⟨"ExtentDiskModel", "placeFor", "(I)I"⟩ : Cond) ∈ ew_T := ew_mem 507 (by decide +kernel) (by decide +kernel)
set_option maxRecDepth 20000 in
theorem ew_508 : (.code ⟨"ExtentDiskModel", "placeFor", "(I)I"⟩ prog_6_method_9_code 5 (some .int) : Cond) ∈ ew_T := ew_mem 508 rfl rfl
theorem ew_509 : (.methodLink "ExtentDiskModel" 61 ⟨"ExtentDiskModel", "mark", "()V"⟩ : Cond) ∈ ew_T := ew_mem 509 (by decide +kernel) (by decide +kernel)
theorem ew_511 : (.instanceMethod ⟨"ExtentDiskModel", "mark", "()V"⟩ : Cond) ∈ ew_T := ew_mem 511 (by decide +kernel) (by decide +kernel)
set_option maxRecDepth 20000 in
theorem ew_512 : (.code ⟨"ExtentDiskModel", "mark", "()V"⟩ prog_6_method_8_code 3 none : Cond) ∈ ew_T := ew_mem 512 rfl rfl
theorem ew_513 : (.methodLink "ExtentDiskModel" 78 ⟨"ExtentDiskModel", "happen", "(IIIII)V"⟩ : Cond) ∈ ew_T := ew_mem 513 (by decide +kernel) (by decide +kernel)
theorem ew_515 : (.instanceMethod ⟨"ExtentDiskModel", "happen", "(IIIII)V"⟩ : Cond) ∈ ew_T := ew_mem 515 (by decide +kernel) (by decide +kernel)
set_option maxRecDepth 20000 in
theorem ew_516 : (.code ⟨"ExtentDiskModel", "happen", "(IIIII)V"⟩ prog_6_method_11_code 8 none : Cond) ∈ ew_T := ew_mem 516 rfl rfl
theorem ew_517 : (.methodLink "ExtentDiskModel" 82 ⟨"ExtentDiskModel", "fail", "()V"⟩ : Cond) ∈ ew_T := ew_mem 517 (by decide +kernel) (by decide +kernel)
theorem ew_519 : (.instanceMethod ⟨"ExtentDiskModel", "fail", "()V"⟩ : Cond) ∈ ew_T := ew_mem 519 (by decide +kernel) (by decide +kernel)
set_option maxRecDepth 20000 in
theorem ew_520 : (.code ⟨"ExtentDiskModel", "fail", "()V"⟩ prog_6_method_12_code 1 none : Cond) ∈ ew_T := ew_mem 520 rfl rfl
theorem ew_521 : (.methodLink "ExtentDiskLaw" 93 ⟨"ExtentDiskModel", "extent", "(II)I"⟩ : Cond) ∈ ew_T := ew_mem 521 (by decide +kernel) (by decide +kernel)
theorem ew_522 : (.instanceMethod ⟨"ExtentDiskModel", "extent", "(II)I"⟩ : Cond) ∈ ew_T := ew_mem 522 (by decide +kernel) (by decide +kernel)
theorem ew_523 : (.selects "ExtentDiskModel" ⟨"ExtentDiskModel", "extent", "(II)I"⟩ ⟨"ExtentDiskModel", "extent", "(II)I"⟩ : Cond) ∈ ew_T := ew_mem 523 (by decide +kernel) (by decide +kernel)
set_option maxRecDepth 20000 in
theorem ew_524 : (.code ⟨"ExtentDiskModel", "extent", "(II)I"⟩ prog_6_method_15_code 3 (some .int) : Cond) ∈ ew_T := ew_mem 524 rfl rfl
theorem ew_525 : (.methodLink "ExtentDiskModel" 85 ⟨"ExtentDiskModel", "isExtent", "(I)Z"⟩ : Cond) ∈ ew_T := ew_mem 525 (by decide +kernel) (by decide +kernel)
theorem ew_527 : (.instanceMethod ⟨"ExtentDiskModel", "isExtent", "(I)Z"⟩ : Cond) ∈ ew_T := ew_mem 527 (by decide +kernel) (by decide +kernel)
set_option maxRecDepth 20000 in
theorem ew_528 : (.code ⟨"ExtentDiskModel", "isExtent", "(I)Z"⟩ prog_6_method_14_code 2 (some .boolean) : Cond) ∈ ew_T := ew_mem 528 rfl rfl
theorem ew_529 : (.methodLink "ExtentDiskLaw" 96 ⟨"ExtentDiskModel", "byteAt", "(II)I"⟩ : Cond) ∈ ew_T := ew_mem 529 (by decide +kernel) (by decide +kernel)
theorem ew_530 : (.instanceMethod ⟨"ExtentDiskModel", "byteAt", "(II)I"⟩ : Cond) ∈ ew_T := ew_mem 530 (by decide +kernel) (by decide +kernel)
theorem ew_531 : (.selects "ExtentDiskModel" ⟨"ExtentDiskModel", "byteAt", "(II)I"⟩ ⟨"ExtentDiskModel", "byteAt", "(II)I"⟩ : Cond) ∈ ew_T := ew_mem 531 (by decide +kernel) (by decide +kernel)
set_option maxRecDepth 20000 in
theorem ew_532 : (.code ⟨"ExtentDiskModel", "byteAt", "(II)I"⟩ prog_6_method_16_code 3 (some .int) : Cond) ∈ ew_T := ew_mem 532 rfl rfl
theorem ew_533 : (.methodLink "ExtentDiskLaw" 100 ⟨"ExtentDiskModel", "crash", "(I)V"⟩ : Cond) ∈ ew_T := ew_mem 533 (by decide +kernel) (by decide +kernel)
theorem ew_534 : (.instanceMethod ⟨"ExtentDiskModel", "crash", "(I)V"⟩ : Cond) ∈ ew_T := ew_mem 534 (by decide +kernel) (by decide +kernel)
theorem ew_535 : (.selects "ExtentDiskModel" ⟨"ExtentDiskModel", "crash", "(I)V"⟩ ⟨"ExtentDiskModel", "crash", "(I)V"⟩ : Cond) ∈ ew_T := ew_mem 535 (by decide +kernel) (by decide +kernel)
set_option maxRecDepth 20000 in
theorem ew_536 : (.code ⟨"ExtentDiskModel", "crash", "(I)V"⟩ prog_6_method_17_code 2 none : Cond) ∈ ew_T := ew_mem 536 rfl rfl
theorem ew_537 : (.methodLink "ExtentDiskLaw" 104 ⟨"ExtentDiskModel", "recover", "()I"⟩ : Cond) ∈ ew_T := ew_mem 537 (by decide +kernel) (by decide +kernel)
theorem ew_538 : (.instanceMethod ⟨"ExtentDiskModel", "recover", "()I"⟩ : Cond) ∈ ew_T := ew_mem 538 (by decide +kernel) (by decide +kernel)
theorem ew_539 : (.selects "ExtentDiskModel" ⟨"ExtentDiskModel", "recover", "()I"⟩ ⟨"ExtentDiskModel", "recover", "()I"⟩ : Cond) ∈ ew_T := ew_mem 539 (by decide +kernel) (by decide +kernel)
set_option maxRecDepth 20000 in
theorem ew_540 : (.code ⟨"ExtentDiskModel", "recover", "()I"⟩ prog_6_method_18_code 2 (some .int) : Cond) ∈ ew_T := ew_mem 540 rfl rfl
theorem ew_541 : (.methodLink "ExtentDiskLaw" 109 ⟨"ExtentDiskModel", "isDown", "()Z"⟩ : Cond) ∈ ew_T := ew_mem 541 (by decide +kernel) (by decide +kernel)
theorem ew_542 : (.instanceMethod ⟨"ExtentDiskModel", "isDown", "()Z"⟩ : Cond) ∈ ew_T := ew_mem 542 (by decide +kernel) (by decide +kernel)
theorem ew_543 : (.selects "ExtentDiskModel" ⟨"ExtentDiskModel", "isDown", "()Z"⟩ ⟨"ExtentDiskModel", "isDown", "()Z"⟩ : Cond) ∈ ew_T := ew_mem 543 (by decide +kernel) (by decide +kernel)
set_option maxRecDepth 20000 in
theorem ew_544 : (.code ⟨"ExtentDiskModel", "isDown", "()Z"⟩ prog_6_method_19_code 1 (some .boolean) : Cond) ∈ ew_T := ew_mem 544 rfl rfl
theorem ew_545 : (.methodLink "ExtentDiskLaw" 113 ⟨"ExtentDiskModel", "writes", "()I"⟩ : Cond) ∈ ew_T := ew_mem 545 (by decide +kernel) (by decide +kernel)
theorem ew_546 : (.instanceMethod ⟨"ExtentDiskModel", "writes", "()I"⟩ : Cond) ∈ ew_T := ew_mem 546 (by decide +kernel) (by decide +kernel)
theorem ew_547 : (.selects "ExtentDiskModel" ⟨"ExtentDiskModel", "writes", "()I"⟩ ⟨"ExtentDiskModel", "writes", "()I"⟩ : Cond) ∈ ew_T := ew_mem 547 (by decide +kernel) (by decide +kernel)
set_option maxRecDepth 20000 in
theorem ew_548 : (.code ⟨"ExtentDiskModel", "writes", "()I"⟩ prog_6_method_20_code 1 (some .int) : Cond) ∈ ew_T := ew_mem 548 rfl rfl
theorem ew_549 : (.methodLink "ExtentDiskLaw" 116 ⟨"ExtentDiskModel", "count", "(I)I"⟩ : Cond) ∈ ew_T := ew_mem 549 (by decide +kernel) (by decide +kernel)
theorem ew_550 : (.instanceMethod ⟨"ExtentDiskModel", "count", "(I)I"⟩ : Cond) ∈ ew_T := ew_mem 550 (by decide +kernel) (by decide +kernel)
theorem ew_551 : (.selects "ExtentDiskModel" ⟨"ExtentDiskModel", "count", "(I)I"⟩ ⟨"ExtentDiskModel", "count", "(I)I"⟩ : Cond) ∈ ew_T := ew_mem 551 (by decide +kernel) (by decide +kernel)
set_option maxRecDepth 20000 in
theorem ew_552 : (.code ⟨"ExtentDiskModel", "count", "(I)I"⟩ prog_6_method_21_code 4 (some .int) : Cond) ∈ ew_T := ew_mem 552 rfl rfl
theorem ew_553 : (.methodLink "ExtentDiskLaw" 119 ⟨"ExtentDiskModel", "doubled", "()I"⟩ : Cond) ∈ ew_T := ew_mem 553 (by decide +kernel) (by decide +kernel)
theorem ew_554 : (.instanceMethod ⟨"ExtentDiskModel", "doubled", "()I"⟩ : Cond) ∈ ew_T := ew_mem 554 (by decide +kernel) (by decide +kernel)
theorem ew_555 : (.selects "ExtentDiskModel" ⟨"ExtentDiskModel", "doubled", "()I"⟩ ⟨"ExtentDiskModel", "doubled", "()I"⟩ : Cond) ∈ ew_T := ew_mem 555 (by decide +kernel) (by decide +kernel)
set_option maxRecDepth 20000 in
theorem ew_556 : (.code ⟨"ExtentDiskModel", "doubled", "()I"⟩ prog_6_method_22_code 4 (some .int) : Cond) ∈ ew_T := ew_mem 556 rfl rfl
theorem ew_557 : (.constantLong "ExtentDiskLaw" 63 4294967295 : Cond) ∈ ew_T := ew_mem 557 (by decide +kernel) (by decide +kernel)
theorem ew_558 : (.arrayClass .long : Cond) ∈ ew_T := ew_mem 558 (by decide +kernel) (by decide +kernel)
theorem in_M : ∀ w ∈ u_ws R_M T_M 6, w ∈ ew_T := List.forall_mem_cons.mpr ⟨ew_95, List.forall_mem_cons.mpr ⟨ew_97, List.forall_mem_cons.mpr ⟨ew_99, List.forall_mem_cons.mpr ⟨ew_101, List.forall_mem_cons.mpr ⟨ew_103, List.forall_mem_cons.mpr ⟨ew_105, fun _ h => absurd h List.not_mem_nil⟩⟩⟩⟩⟩⟩
theorem in_P : ∀ w ∈ u_ws R_P T_P 4, w ∈ ew_T := List.forall_mem_cons.mpr ⟨ew_52, List.forall_mem_cons.mpr ⟨ew_54, List.forall_mem_cons.mpr ⟨ew_56, List.forall_mem_cons.mpr ⟨ew_58, fun _ h => absurd h List.not_mem_nil⟩⟩⟩⟩
theorem in_Tp : ∀ w ∈ u_ws R_Tp T_Tp 2, w ∈ ew_T := List.forall_mem_cons.mpr ⟨ew_72, List.forall_mem_cons.mpr ⟨ew_74, fun _ h => absurd h List.not_mem_nil⟩⟩
theorem in_D : ∀ w ∈ u_ws R_D T_D 7, w ∈ ew_T := List.forall_mem_cons.mpr ⟨ew_116, List.forall_mem_cons.mpr ⟨ew_118, List.forall_mem_cons.mpr ⟨ew_120, List.forall_mem_cons.mpr ⟨ew_122, List.forall_mem_cons.mpr ⟨ew_124, List.forall_mem_cons.mpr ⟨ew_126, List.forall_mem_cons.mpr ⟨ew_128, fun _ h => absurd h List.not_mem_nil⟩⟩⟩⟩⟩⟩⟩
theorem in_K : ∀ w ∈ u_ws R_K T_K 17, w ∈ ew_T := List.forall_mem_cons.mpr ⟨ew_436, List.forall_mem_cons.mpr ⟨ew_438, List.forall_mem_cons.mpr ⟨ew_440, List.forall_mem_cons.mpr ⟨ew_442, List.forall_mem_cons.mpr ⟨ew_444, List.forall_mem_cons.mpr ⟨ew_446, List.forall_mem_cons.mpr ⟨ew_448, List.forall_mem_cons.mpr ⟨ew_450, List.forall_mem_cons.mpr ⟨ew_452, List.forall_mem_cons.mpr ⟨ew_454, List.forall_mem_cons.mpr ⟨ew_456, List.forall_mem_cons.mpr ⟨ew_458, List.forall_mem_cons.mpr ⟨ew_460, List.forall_mem_cons.mpr ⟨ew_462, List.forall_mem_cons.mpr ⟨ew_464, List.forall_mem_cons.mpr ⟨ew_466, List.forall_mem_cons.mpr ⟨ew_468, fun _ h => absurd h List.not_mem_nil⟩⟩⟩⟩⟩⟩⟩⟩⟩⟩⟩⟩⟩⟩⟩⟩⟩
theorem ew_good {w : Cond} (h : w ∈ ew_T) : GoodIn ew_T (w :: ew_T) := fun v hv => by
  rcases List.mem_cons.mp hv with e | e
  · subst e; exact ⟨h, good_of_word (List.mem_filter.mp h).2⟩
  · exact ⟨e, good_of_word (List.mem_filter.mp e).2⟩
theorem ew_gd {w : Cond} (h : w ∈ ew_T) : w ∈ ew_T ∧ ((w.onTables && w.keeps) = true ∨ ∃ ty, w = .arrayClass ty) := ⟨h, good_of_word (List.mem_filter.mp h).2⟩
theorem ew_V {own C : String} {idx : Nat} {y : MethodName} {ws : List Cond} (h1 : Cond.methodLink own idx y ∈ ew_T) (h2 : Cond.instanceMethod y ∈ ew_T) (h3 : Cond.selects C y y ∈ ew_T) (h4 : Cond.initialized C ∈ ew_T) (h : GoodIn ew_T ws) : GoodIn ew_T (wsV own idx C y ws) := fun w hw => by
  rcases List.mem_append.mp hw with q | q
  · rcases List.mem_cons.mp q with e | q
    · subst e; exact ew_gd h1
    · rcases List.mem_cons.mp q with e | q
      · subst e; exact ew_gd h2
      · rcases List.mem_cons.mp q with e | q
        · subst e; exact ew_gd h3
        · rcases List.mem_cons.mp q with e | q
          · subst e; exact ew_gd h4
          · exact absurd q List.not_mem_nil
  · exact h w q
theorem ew_S {own : String} {idx : Nat} {y : MethodName} {ws : List Cond} (h1 : Cond.methodLink own idx y ∈ ew_T) (h2 : Cond.static y ∈ ew_T) (h3 : Cond.initialized y.cls ∈ ew_T) (h : GoodIn ew_T ws) : GoodIn ew_T (va_wsS own idx y ws) := fun w hw => by
  rcases List.mem_append.mp hw with q | q
  · rcases List.mem_cons.mp q with e | q
    · subst e; exact ew_gd h1
    · rcases List.mem_cons.mp q with e | q
      · subst e; exact ew_gd h2
      · rcases List.mem_cons.mp q with e | q
        · subst e; exact ew_gd h3
        · exact absurd q List.not_mem_nil
  · exact h w q
abbrev b_D_init : ByteArray := prog_1_method_1_code
def y_D_init : MethodName := ⟨R_D, "<init>", "(I)V"⟩
abbrev w_D_init : List Cond := .code y_D_init b_D_init 3 none :: ew_T
theorem g_D_init : GoodIn ew_T w_D_init := ew_good ew_30
abbrev b_P_init : ByteArray := prog_3_method_1_code
def y_P_init : MethodName := ⟨R_P, "<init>", "(I)V"⟩
abbrev w_P_init : List Cond := .code y_P_init b_P_init 2 none :: ew_T
theorem g_P_init : GoodIn ew_T w_P_init := ew_good ew_44
abbrev b_Tp_init : ByteArray := prog_4_method_1_code
def y_Tp_init : MethodName := ⟨R_Tp, "<init>", "(I)V"⟩
abbrev w_Tp_init : List Cond := .code y_Tp_init b_Tp_init 2 none :: ew_T
theorem g_Tp_init : GoodIn ew_T w_Tp_init := ew_good ew_66
abbrev b_M_init : ByteArray := prog_2_method_1_code
def y_M_init : MethodName := ⟨R_M, "<init>", "()V"⟩
abbrev w_M_init : List Cond := .code y_M_init b_M_init 1 none :: ew_T
theorem g_M_init : GoodIn ew_T w_M_init := ew_good ew_81
abbrev b_D_recover : ByteArray := prog_1_method_11_code
def y_D_recover : MethodName := ⟨R_D, "recover", "()I"⟩
abbrev w_D_recover : List Cond := .code y_D_recover b_D_recover 1 (some .int) :: ew_T
theorem g_D_recover : GoodIn ew_T w_D_recover := ew_good ew_134
abbrev b_P_limitPower : ByteArray := prog_3_method_2_code
def y_P_limitPower : MethodName := ⟨R_P, "limitPower", "(I)V"⟩
abbrev w_P_limitPower : List Cond := .code y_P_limitPower b_P_limitPower 2 none :: ew_T
theorem g_P_limitPower : GoodIn ew_T w_P_limitPower := ew_good ew_138
abbrev b_M_load : ByteArray := prog_2_method_9_code
def y_M_load : MethodName := ⟨R_M, "load", "(LExtentDisk$Platter;I)V"⟩
abbrev w_M_load : List Cond := .code y_M_load b_M_load 7 none :: ew_T
theorem g_M_load : GoodIn ew_T w_M_load := ew_good ew_142
abbrev b_M_clear : ByteArray := prog_2_method_3_code
def y_M_clear : MethodName := ⟨R_M, "clear", "()V"⟩
abbrev w_M_clear : List Cond := .code y_M_clear b_M_clear 1 none :: ew_T
theorem g_M_clear : GoodIn ew_T w_M_clear := ew_good ew_146
abbrev b_A_fill : ByteArray := prog_15_method_103_code
def y_A_fill : MethodName := ⟨R_A, "fill", "([II)V"⟩
abbrev w_A_fill : List Cond := .code y_A_fill b_A_fill 4 none :: ew_T
theorem g_A_fill : GoodIn ew_T w_A_fill := ew_good ew_149
abbrev b_P_readInt : ByteArray := prog_3_method_5_code
def y_P_readInt : MethodName := ⟨R_P, "readInt", "(I)I"⟩
abbrev w_P_readInt : List Cond := .code y_P_readInt b_P_readInt 2 (some .int) :: ew_T
theorem g_P_readInt : GoodIn ew_T w_P_readInt := ew_good ew_153
abbrev b_P_read : ByteArray := prog_3_method_4_code
def y_P_read : MethodName := ⟨R_P, "read", "(I)I"⟩
abbrev w_P_read : List Cond := .code y_P_read b_P_read 2 (some .int) :: ew_T
theorem g_P_read : GoodIn ew_T w_P_read := ew_good ew_157
abbrev b_M_add : ByteArray := prog_2_method_4_code
def y_M_add : MethodName := ⟨R_M, "add", "(III)Z"⟩
abbrev w_M_add : List Cond := .code y_M_add b_M_add 4 (some .boolean) :: ew_T
theorem g_M_add : GoodIn ew_T w_M_add := ew_good ew_162
abbrev b_D_makeNextCount : ByteArray := prog_1_method_20_code
def y_D_makeNextCount : MethodName := ⟨R_D, "makeNextCount", "()V"⟩
abbrev w_D_makeNextCount : List Cond := .code y_D_makeNextCount b_D_makeNextCount 2 none :: ew_T
theorem g_D_makeNextCount : GoodIn ew_T w_D_makeNextCount := ew_good ew_166
abbrev b_D_isDown : ByteArray := prog_1_method_12_code
def y_D_isDown : MethodName := ⟨R_D, "isDown", "()Z"⟩
abbrev w_D_isDown : List Cond := .code y_D_isDown b_D_isDown 1 (some .boolean) :: ew_T
theorem g_D_isDown : GoodIn ew_T w_D_isDown := ew_good ew_173
abbrev b_D_writes : ByteArray := prog_1_method_13_code
def y_D_writes : MethodName := ⟨R_D, "writes", "()I"⟩
abbrev w_D_writes : List Cond := .code y_D_writes b_D_writes 1 (some .int) :: ew_T
theorem g_D_writes : GoodIn ew_T w_D_writes := ew_good ew_177
abbrev b_L_cell : ByteArray := method_2_code
def y_L_cell : MethodName := ⟨R_L, "cell", "([II)I"⟩
abbrev w_L_cell : List Cond := .code y_L_cell b_L_cell 2 (some .int) :: ew_T
theorem g_L_cell : GoodIn ew_T w_L_cell := ew_good ew_180
abbrev b_L_put : ByteArray := method_3_code
def y_L_put : MethodName := ⟨R_L, "put", "(LExtentDisk;JI[J)I"⟩
abbrev w_L_put : List Cond := .codeWith y_L_put b_L_put 6 (some .int) [(0, 11, 14, 13), (0, 11, 18, 15)] :: ew_T
theorem g_L_put : GoodIn ew_T w_L_put := ew_good ew_183
abbrev b_D_put : ByteArray := prog_1_method_2_code
def y_D_put : MethodName := ⟨R_D, "put", "(JI)I"⟩
abbrev w_D_put : List Cond := .code y_D_put b_D_put 5 (some .int) :: ew_T
theorem g_D_put : GoodIn ew_T w_D_put := ew_good ew_189
abbrev b_Tp_hasRoomFor : ByteArray := prog_4_method_2_code
def y_Tp_hasRoomFor : MethodName := ⟨R_Tp, "hasRoomFor", "(I)Z"⟩
abbrev w_Tp_hasRoomFor : List Cond := .code y_Tp_hasRoomFor b_Tp_hasRoomFor 2 (some .boolean) :: ew_T
theorem g_Tp_hasRoomFor : GoodIn ew_T w_Tp_hasRoomFor := ew_good ew_259
abbrev b_Tp_append : ByteArray := prog_4_method_3_code
def y_Tp_append : MethodName := ⟨R_Tp, "append", "(B)V"⟩
abbrev w_Tp_append : List Cond := .code y_Tp_append b_Tp_append 2 none :: ew_T
theorem g_Tp_append : GoodIn ew_T w_Tp_append := ew_good ew_279
abbrev b_L_fill : ByteArray := method_4_code
def y_L_fill : MethodName := ⟨R_L, "fill", "(LExtentDisk;II[J)I"⟩
abbrev w_L_fill : List Cond := .codeWith y_L_fill b_L_fill 5 (some .int) [(0, 10, 13, 13), (0, 10, 17, 15)] :: ew_T
theorem g_L_fill : GoodIn ew_T w_L_fill := ew_good ew_282
abbrev b_D_fill : ByteArray := prog_1_method_3_code
def y_D_fill : MethodName := ⟨R_D, "fill", "(II)I"⟩
abbrev w_D_fill : List Cond := .code y_D_fill b_D_fill 4 (some .int) :: ew_T
theorem g_D_fill : GoodIn ew_T w_D_fill := ew_good ew_286
abbrev b_L_drop : ByteArray := method_5_code
def y_L_drop : MethodName := ⟨R_L, "drop", "(LExtentDisk;[J)I"⟩
abbrev w_L_drop : List Cond := .codeWith y_L_drop b_L_drop 3 (some .int) [(0, 8, 11, 15)] :: ew_T
theorem g_L_drop : GoodIn ew_T w_L_drop := ew_good ew_291
abbrev b_D_drop : ByteArray := prog_1_method_4_code
def y_D_drop : MethodName := ⟨R_D, "drop", "()I"⟩
abbrev w_D_drop : List Cond := .code y_D_drop b_D_drop 2 (some .int) :: ew_T
theorem g_D_drop : GoodIn ew_T w_D_drop := ew_good ew_295
abbrev b_L_wish : ByteArray := method_6_code
def y_L_wish : MethodName := ⟨R_L, "wish", "(LExtentDisk;II[J)I"⟩
abbrev w_L_wish : List Cond := .codeWith y_L_wish b_L_wish 5 (some .int) [(0, 10, 13, 13), (0, 10, 17, 15)] :: ew_T
theorem g_L_wish : GoodIn ew_T w_L_wish := ew_good ew_299
abbrev b_D_wish : ByteArray := prog_1_method_5_code
def y_D_wish : MethodName := ⟨R_D, "wish", "(II)I"⟩
abbrev w_D_wish : List Cond := .code y_D_wish b_D_wish 4 (some .int) :: ew_T
theorem g_D_wish : GoodIn ew_T w_D_wish := ew_good ew_303
abbrev b_L_note : ByteArray := method_7_code
def y_L_note : MethodName := ⟨R_L, "note", "(LExtentDisk;I[J)I"⟩
abbrev w_L_note : List Cond := .codeWith y_L_note b_L_note 4 (some .int) [(0, 9, 12, 13), (0, 9, 15, 15)] :: ew_T
theorem g_L_note : GoodIn ew_T w_L_note := ew_good ew_307
abbrev b_D_note : ByteArray := prog_1_method_6_code
def y_D_note : MethodName := ⟨R_D, "note", "(I)I"⟩
abbrev w_D_note : List Cond := .code y_D_note b_D_note 2 (some .int) :: ew_T
theorem g_D_note : GoodIn ew_T w_D_note := ew_good ew_311
abbrev b_L_change : ByteArray := method_8_code
def y_L_change : MethodName := ⟨R_L, "change", "(LExtentDisk;III[J)I"⟩
abbrev w_L_change : List Cond := .codeWith y_L_change b_L_change 6 (some .int) [(0, 12, 15, 15)] :: ew_T
theorem g_L_change : GoodIn ew_T w_L_change := ew_good ew_314
abbrev b_D_change : ByteArray := prog_1_method_7_code
def y_D_change : MethodName := ⟨R_D, "change", "(III)I"⟩
abbrev w_D_change : List Cond := .code y_D_change b_D_change 5 (some .int) :: ew_T
theorem g_D_change : GoodIn ew_T w_D_change := ew_good ew_318
abbrev b_M_follow : ByteArray := prog_2_method_5_code
def y_M_follow : MethodName := ⟨R_M, "follow", "(LExtentDisk$Manifest;II)V"⟩
abbrev w_M_follow : List Cond := .code y_M_follow b_M_follow 6 none :: ew_T
theorem g_M_follow : GoodIn ew_T w_M_follow := ew_good ew_322
abbrev b_M_takeNotes : ByteArray := prog_2_method_6_code
def y_M_takeNotes : MethodName := ⟨R_M, "takeNotes", "([I)V"⟩
abbrev w_M_takeNotes : List Cond := .code y_M_takeNotes b_M_takeNotes 3 none :: ew_T
theorem g_M_takeNotes : GoodIn ew_T w_M_takeNotes := ew_good ew_326
abbrev b_D_blocksFor : ByteArray := prog_1_method_16_code
def y_D_blocksFor : MethodName := ⟨R_D, "blocksFor", "(I)I"⟩
abbrev w_D_blocksFor : List Cond := .code y_D_blocksFor b_D_blocksFor 1 (some .int) :: ew_T
theorem g_D_blocksFor : GoodIn ew_T w_D_blocksFor := ew_good ew_329
abbrev b_D_firstFreeRow : ByteArray := prog_1_method_18_code
def y_D_firstFreeRow : MethodName := ⟨R_D, "firstFreeRow", "(I)I"⟩
abbrev w_D_firstFreeRow : List Cond := .code y_D_firstFreeRow b_D_firstFreeRow 4 (some .int) :: ew_T
theorem g_D_firstFreeRow : GoodIn ew_T w_D_firstFreeRow := ew_good ew_333
abbrev b_M_countTenants : ByteArray := prog_2_method_7_code
def y_M_countTenants : MethodName := ⟨R_M, "countTenants", "([I)V"⟩
abbrev w_M_countTenants : List Cond := .code y_M_countTenants b_M_countTenants 5 none :: ew_T
theorem g_M_countTenants : GoodIn ew_T w_M_countTenants := ew_good ew_337
abbrev b_D_carryOut : ByteArray := prog_1_method_19_code
def y_D_carryOut : MethodName := ⟨R_D, "carryOut", "(I)I"⟩
abbrev w_D_carryOut : List Cond := .code y_D_carryOut b_D_carryOut 4 (some .int) :: ew_T
theorem g_D_carryOut : GoodIn ew_T w_D_carryOut := ew_good ew_344
abbrev b_P_writeBlock : ByteArray := prog_3_method_3_code
def y_P_writeBlock : MethodName := ⟨R_P, "writeBlock", "(I[BI)Z"⟩
abbrev w_P_writeBlock : List Cond := .code y_P_writeBlock b_P_writeBlock 5 (some .boolean) :: ew_T
theorem g_P_writeBlock : GoodIn ew_T w_P_writeBlock := ew_good ew_348
abbrev b_D_forget : ByteArray := prog_1_method_21_code
def y_D_forget : MethodName := ⟨R_D, "forget", "()V"⟩
abbrev w_D_forget : List Cond := .code y_D_forget b_D_forget 1 none :: ew_T
theorem g_D_forget : GoodIn ew_T w_D_forget := ew_good ew_354
abbrev b_M_store : ByteArray := prog_2_method_8_code
def y_M_store : MethodName := ⟨R_M, "store", "([B)V"⟩
abbrev w_M_store : List Cond := .code y_M_store b_M_store 4 none :: ew_T
theorem g_M_store : GoodIn ew_T w_M_store := ew_good ew_360
abbrev b_M_storeInt : ByteArray := prog_2_method_10_code
def y_M_storeInt : MethodName := ⟨R_M, "storeInt", "([BII)V"⟩
abbrev w_M_storeInt : List Cond := .code y_M_storeInt b_M_storeInt 3 none :: ew_T
theorem g_M_storeInt : GoodIn ew_T w_M_storeInt := ew_good ew_363
abbrev b_L_extent : ByteArray := method_9_code
def y_L_extent : MethodName := ⟨R_L, "extent", "(LExtentDisk;II[J)I"⟩
abbrev w_L_extent : List Cond := .codeWith y_L_extent b_L_extent 5 (some .int) [(0, 10, 13, 13)] :: ew_T
theorem g_L_extent : GoodIn ew_T w_L_extent := ew_good ew_366
abbrev b_D_extent : ByteArray := prog_1_method_8_code
def y_D_extent : MethodName := ⟨R_D, "extent", "(II)I"⟩
abbrev w_D_extent : List Cond := .code y_D_extent b_D_extent 3 (some .int) :: ew_T
theorem g_D_extent : GoodIn ew_T w_D_extent := ew_good ew_370
abbrev b_M_holds : ByteArray := prog_2_method_2_code
def y_M_holds : MethodName := ⟨R_M, "holds", "(I)Z"⟩
abbrev w_M_holds : List Cond := .code y_M_holds b_M_holds 2 (some .boolean) :: ew_T
theorem g_M_holds : GoodIn ew_T w_M_holds := ew_good ew_374
abbrev b_L_byteAt : ByteArray := method_10_code
def y_L_byteAt : MethodName := ⟨R_L, "byteAt", "(LExtentDisk;II[J)I"⟩
abbrev w_L_byteAt : List Cond := .codeWith y_L_byteAt b_L_byteAt 5 (some .int) [(0, 10, 13, 13)] :: ew_T
theorem g_L_byteAt : GoodIn ew_T w_L_byteAt := ew_good ew_379
abbrev b_D_byteAt : ByteArray := prog_1_method_9_code
def y_D_byteAt : MethodName := ⟨R_D, "byteAt", "(II)I"⟩
abbrev w_D_byteAt : List Cond := .code y_D_byteAt b_D_byteAt 3 (some .int) :: ew_T
theorem g_D_byteAt : GoodIn ew_T w_D_byteAt := ew_good ew_383
abbrev b_L_crash : ByteArray := method_11_code
def y_L_crash : MethodName := ⟨R_L, "crash", "(LExtentDisk;I)I"⟩
abbrev w_L_crash : List Cond := .codeWith y_L_crash b_L_crash 3 (some .int) [(0, 5, 8, 13), (0, 5, 11, 15)] :: ew_T
theorem g_L_crash : GoodIn ew_T w_L_crash := ew_good ew_388
abbrev b_D_crash : ByteArray := prog_1_method_10_code
def y_D_crash : MethodName := ⟨R_D, "crash", "(I)V"⟩
abbrev w_D_crash : List Cond := .code y_D_crash b_D_crash 2 none :: ew_T
theorem g_D_crash : GoodIn ew_T w_D_crash := ew_good ew_392
abbrev b_L_count : ByteArray := method_12_code
def y_L_count : MethodName := ⟨R_L, "count", "(LExtentDisk;I[J)I"⟩
abbrev w_L_count : List Cond := .codeWith y_L_count b_L_count 4 (some .int) [(0, 9, 12, 13), (0, 9, 15, 15)] :: ew_T
theorem g_L_count : GoodIn ew_T w_L_count := ew_good ew_396
abbrev b_D_count : ByteArray := prog_1_method_14_code
def y_D_count : MethodName := ⟨R_D, "count", "(I)I"⟩
abbrev w_D_count : List Cond := .code y_D_count b_D_count 2 (some .int) :: ew_T
theorem g_D_count : GoodIn ew_T w_D_count := ew_good ew_400
abbrev b_D_freeBlocks : ByteArray := prog_1_method_17_code
def y_D_freeBlocks : MethodName := ⟨R_D, "freeBlocks", "()I"⟩
abbrev w_D_freeBlocks : List Cond := .code y_D_freeBlocks b_D_freeBlocks 3 (some .int) :: ew_T
theorem g_D_freeBlocks : GoodIn ew_T w_D_freeBlocks := ew_good ew_404
abbrev b_L_doubled : ByteArray := method_13_code
def y_L_doubled : MethodName := ⟨R_L, "doubled", "(LExtentDisk;[J)I"⟩
abbrev w_L_doubled : List Cond := .codeWith y_L_doubled b_L_doubled 3 (some .int) [(0, 8, 11, 15)] :: ew_T
theorem g_L_doubled : GoodIn ew_T w_L_doubled := ew_good ew_407
abbrev b_D_doubled : ByteArray := prog_1_method_15_code
def y_D_doubled : MethodName := ⟨R_D, "doubled", "()I"⟩
abbrev w_D_doubled : List Cond := .code y_D_doubled b_D_doubled 3 (some .int) :: ew_T
theorem g_D_doubled : GoodIn ew_T w_D_doubled := ew_good ew_411
abbrev b_K_init : ByteArray := prog_6_method_1_code
def y_K_init : MethodName := ⟨R_K, "<init>", "(I)V"⟩
abbrev w_K_init : List Cond := .code y_K_init b_K_init 2 none :: ew_T
theorem g_K_init : GoodIn ew_T w_K_init := ew_good ew_416
abbrev b_K_thrown : ByteArray := prog_6_method_2_code
def y_K_thrown : MethodName := ⟨R_K, "thrown", "()I"⟩
abbrev w_K_thrown : List Cond := .code y_K_thrown b_K_thrown 1 (some .int) :: ew_T
theorem g_K_thrown : GoodIn ew_T w_K_thrown := ew_good ew_475
abbrev b_K_put : ByteArray := prog_6_method_3_code
def y_K_put : MethodName := ⟨R_K, "put", "(JI)I"⟩
abbrev w_K_put : List Cond := .code y_K_put b_K_put 5 (some .int) :: ew_T
theorem g_K_put : GoodIn ew_T w_K_put := ew_good ew_479
abbrev b_K_fill : ByteArray := prog_6_method_4_code
def y_K_fill : MethodName := ⟨R_K, "fill", "(II)I"⟩
abbrev w_K_fill : List Cond := .code y_K_fill b_K_fill 4 (some .int) :: ew_T
theorem g_K_fill : GoodIn ew_T w_K_fill := ew_good ew_483
abbrev b_K_drop : ByteArray := prog_6_method_5_code
def y_K_drop : MethodName := ⟨R_K, "drop", "()I"⟩
abbrev w_K_drop : List Cond := .code y_K_drop b_K_drop 2 (some .int) :: ew_T
theorem g_K_drop : GoodIn ew_T w_K_drop := ew_good ew_488
abbrev b_K_wish : ByteArray := prog_6_method_6_code
def y_K_wish : MethodName := ⟨R_K, "wish", "(II)I"⟩
abbrev w_K_wish : List Cond := .code y_K_wish b_K_wish 4 (some .int) :: ew_T
theorem g_K_wish : GoodIn ew_T w_K_wish := ew_good ew_492
abbrev b_K_note : ByteArray := prog_6_method_7_code
def y_K_note : MethodName := ⟨R_K, "note", "(I)I"⟩
abbrev w_K_note : List Cond := .code y_K_note b_K_note 2 (some .int) :: ew_T
theorem g_K_note : GoodIn ew_T w_K_note := ew_good ew_496
abbrev b_K_change : ByteArray := prog_6_method_13_code
def y_K_change : MethodName := ⟨R_K, "change", "(III)I"⟩
abbrev w_K_change : List Cond := .code y_K_change b_K_change 9 (some .int) :: ew_T
theorem g_K_change : GoodIn ew_T w_K_change := ew_good ew_500
abbrev b_K_goes : ByteArray := prog_6_method_10_code
def y_K_goes : MethodName := ⟨R_K, "goes", "(III)Z"⟩
abbrev w_K_goes : List Cond := .code y_K_goes b_K_goes 4 (some .boolean) :: ew_T
theorem g_K_goes : GoodIn ew_T w_K_goes := ew_good ew_504
abbrev b_K_placeFor : ByteArray := prog_6_method_9_code
def y_K_placeFor : MethodName := ⟨R_K, "placeFor", "(I)I"⟩
abbrev w_K_placeFor : List Cond := .code y_K_placeFor b_K_placeFor 5 (some .int) :: ew_T
theorem g_K_placeFor : GoodIn ew_T w_K_placeFor := ew_good ew_508
abbrev b_K_mark : ByteArray := prog_6_method_8_code
def y_K_mark : MethodName := ⟨R_K, "mark", "()V"⟩
abbrev w_K_mark : List Cond := .code y_K_mark b_K_mark 3 none :: ew_T
theorem g_K_mark : GoodIn ew_T w_K_mark := ew_good ew_512
abbrev b_K_happen : ByteArray := prog_6_method_11_code
def y_K_happen : MethodName := ⟨R_K, "happen", "(IIIII)V"⟩
abbrev w_K_happen : List Cond := .code y_K_happen b_K_happen 8 none :: ew_T
theorem g_K_happen : GoodIn ew_T w_K_happen := ew_good ew_516
abbrev b_K_fail : ByteArray := prog_6_method_12_code
def y_K_fail : MethodName := ⟨R_K, "fail", "()V"⟩
abbrev w_K_fail : List Cond := .code y_K_fail b_K_fail 1 none :: ew_T
theorem g_K_fail : GoodIn ew_T w_K_fail := ew_good ew_520
abbrev b_K_extent : ByteArray := prog_6_method_15_code
def y_K_extent : MethodName := ⟨R_K, "extent", "(II)I"⟩
abbrev w_K_extent : List Cond := .code y_K_extent b_K_extent 3 (some .int) :: ew_T
theorem g_K_extent : GoodIn ew_T w_K_extent := ew_good ew_524
abbrev b_K_isExtent : ByteArray := prog_6_method_14_code
def y_K_isExtent : MethodName := ⟨R_K, "isExtent", "(I)Z"⟩
abbrev w_K_isExtent : List Cond := .code y_K_isExtent b_K_isExtent 2 (some .boolean) :: ew_T
theorem g_K_isExtent : GoodIn ew_T w_K_isExtent := ew_good ew_528
abbrev b_K_byteAt : ByteArray := prog_6_method_16_code
def y_K_byteAt : MethodName := ⟨R_K, "byteAt", "(II)I"⟩
abbrev w_K_byteAt : List Cond := .code y_K_byteAt b_K_byteAt 3 (some .int) :: ew_T
theorem g_K_byteAt : GoodIn ew_T w_K_byteAt := ew_good ew_532
abbrev b_K_crash : ByteArray := prog_6_method_17_code
def y_K_crash : MethodName := ⟨R_K, "crash", "(I)V"⟩
abbrev w_K_crash : List Cond := .code y_K_crash b_K_crash 2 none :: ew_T
theorem g_K_crash : GoodIn ew_T w_K_crash := ew_good ew_536
abbrev b_K_recover : ByteArray := prog_6_method_18_code
def y_K_recover : MethodName := ⟨R_K, "recover", "()I"⟩
abbrev w_K_recover : List Cond := .code y_K_recover b_K_recover 2 (some .int) :: ew_T
theorem g_K_recover : GoodIn ew_T w_K_recover := ew_good ew_540
abbrev b_K_isDown : ByteArray := prog_6_method_19_code
def y_K_isDown : MethodName := ⟨R_K, "isDown", "()Z"⟩
abbrev w_K_isDown : List Cond := .code y_K_isDown b_K_isDown 1 (some .boolean) :: ew_T
theorem g_K_isDown : GoodIn ew_T w_K_isDown := ew_good ew_544
abbrev b_K_writes : ByteArray := prog_6_method_20_code
def y_K_writes : MethodName := ⟨R_K, "writes", "()I"⟩
abbrev w_K_writes : List Cond := .code y_K_writes b_K_writes 1 (some .int) :: ew_T
theorem g_K_writes : GoodIn ew_T w_K_writes := ew_good ew_548
abbrev b_K_count : ByteArray := prog_6_method_21_code
def y_K_count : MethodName := ⟨R_K, "count", "(I)I"⟩
abbrev w_K_count : List Cond := .code y_K_count b_K_count 4 (some .int) :: ew_T
theorem g_K_count : GoodIn ew_T w_K_count := ew_good ew_552
abbrev b_K_doubled : ByteArray := prog_6_method_22_code
def y_K_doubled : MethodName := ⟨R_K, "doubled", "()I"⟩
abbrev w_K_doubled : List Cond := .code y_K_doubled b_K_doubled 4 (some .int) :: ew_T
theorem g_K_doubled : GoodIn ew_T w_K_doubled := ew_good ew_556
