/-! names of this claim: laid by my own program out of claim/Statement.lean and claim/JAVAP.txt -/
def ew_T : List Cond := lw_tbl.filter goodWord
def R_M : String := "ExtentDisk$Manifest"
def T_M : u_T := fun k => match k with
  | 0 => ("ExtentDisk$Manifest", "labels", "[I", true)
  | 1 => ("ExtentDisk$Manifest", "firsts", "[I", true)
  | 2 => ("ExtentDisk$Manifest", "sizes", "[I", true)
  | 3 => ("ExtentDisk$Manifest", "notes", "[I", true)
  | 4 => ("ExtentDisk$Manifest", "extents", "I", false)
  | _ => ("ExtentDisk$Manifest", "changes", "I", false)
def t_M : Nat → FieldType := fun k => match k with
  | 0 => .array .int
  | 1 => .array .int
  | 2 => .array .int
  | 3 => .array .int
  | 4 => .int
  | _ => .int
theorem n_M : ∀ a, a < 6 → ∀ b, b < 6 → a ≠ b → (T_M a).2.1 ≠ (T_M b).2.1 := by decide +kernel
theorem t_M_ok : ∀ k, k < 6 → parseFieldDescriptor (T_M k).2.2.1 = some (t_M k) := by decide +kernel
def R_P : String := "ExtentDisk$Platter"
def T_P : u_T := fun k => match k with
  | 0 => ("ExtentDisk$Platter", "bytes", "[B", true)
  | 1 => ("ExtentDisk$Platter", "down", "Z", false)
  | 2 => ("ExtentDisk$Platter", "written", "I", false)
  | _ => ("ExtentDisk$Platter", "powerLeft", "I", false)
def t_P : Nat → FieldType := fun k => match k with
  | 0 => .array .byte
  | 1 => .boolean
  | 2 => .int
  | _ => .int
theorem n_P : ∀ a, a < 4 → ∀ b, b < 4 → a ≠ b → (T_P a).2.1 ≠ (T_P b).2.1 := by decide +kernel
theorem t_P_ok : ∀ k, k < 4 → parseFieldDescriptor (T_P k).2.2.1 = some (t_P k) := by decide +kernel
def R_Tp : String := "ExtentDisk$Tape"
def T_Tp : u_T := fun k => match k with
  | 0 => ("ExtentDisk$Tape", "bytes", "[B", true)
  | _ => ("ExtentDisk$Tape", "length", "I", false)
def t_Tp : Nat → FieldType := fun k => match k with
  | 0 => .array .byte
  | _ => .int
theorem n_Tp : ∀ a, a < 2 → ∀ b, b < 2 → a ≠ b → (T_Tp a).2.1 ≠ (T_Tp b).2.1 := by decide +kernel
theorem t_Tp_ok : ∀ k, k < 2 → parseFieldDescriptor (T_Tp k).2.2.1 = some (t_Tp k) := by decide +kernel
def R_D : String := "ExtentDisk"
def T_D : u_T := fun k => match k with
  | 0 => ("ExtentDisk", "platter", "LExtentDisk$Platter;", true)
  | 1 => ("ExtentDisk", "tape", "LExtentDisk$Tape;", true)
  | 2 => ("ExtentDisk", "wishes", "[I", true)
  | 3 => ("ExtentDisk", "page", "[B", true)
  | 4 => ("ExtentDisk", "tenants", "[I", true)
  | 5 => ("ExtentDisk", "now", "LExtentDisk$Manifest;", false)
  | _ => ("ExtentDisk", "next", "LExtentDisk$Manifest;", false)
def t_D : Nat → FieldType := fun k => match k with
  | 0 => .object "ExtentDisk$Platter"
  | 1 => .object "ExtentDisk$Tape"
  | 2 => .array .int
  | 3 => .array .byte
  | 4 => .array .int
  | 5 => .object "ExtentDisk$Manifest"
  | _ => .object "ExtentDisk$Manifest"
theorem n_D : ∀ a, a < 7 → ∀ b, b < 7 → a ≠ b → (T_D a).2.1 ≠ (T_D b).2.1 := by decide +kernel
theorem t_D_ok : ∀ k, k < 7 → parseFieldDescriptor (T_D k).2.2.1 = some (t_D k) := by decide +kernel
def R_K : String := "ExtentDiskModel"
def T_K : u_T := fun k => match k with
  | 0 => ("ExtentDiskModel", "code", "I", false)
  | 1 => ("ExtentDiskModel", "blocks", "I", true)
  | 2 => ("ExtentDiskModel", "down", "Z", false)
  | 3 => ("ExtentDiskModel", "writes", "I", false)
  | 4 => ("ExtentDiskModel", "left", "I", false)
  | 5 => ("ExtentDiskModel", "extents", "I", false)
  | 6 => ("ExtentDiskModel", "label", "[I", true)
  | 7 => ("ExtentDiskModel", "first", "[I", true)
  | 8 => ("ExtentDiskModel", "many", "[I", true)
  | 9 => ("ExtentDiskModel", "bytes", "[I", true)
  | 10 => ("ExtentDiskModel", "note", "[I", true)
  | 11 => ("ExtentDiskModel", "changes", "I", false)
  | 12 => ("ExtentDiskModel", "disk", "[B", true)
  | 13 => ("ExtentDiskModel", "used", "[Z", true)
  | 14 => ("ExtentDiskModel", "wish", "[I", true)
  | 15 => ("ExtentDiskModel", "taped", "I", false)
  | _ => ("ExtentDiskModel", "tape", "[B", true)
def t_K : Nat → FieldType := fun k => match k with
  | 0 => .int
  | 1 => .int
  | 2 => .boolean
  | 3 => .int
  | 4 => .int
  | 5 => .int
  | 6 => .array .int
  | 7 => .array .int
  | 8 => .array .int
  | 9 => .array .int
  | 10 => .array .int
  | 11 => .int
  | 12 => .array .byte
  | 13 => .array .boolean
  | 14 => .array .int
  | 15 => .int
  | _ => .array .byte
theorem n_K : ∀ a, a < 17 → ∀ b, b < 17 → a ≠ b → (T_K a).2.1 ≠ (T_K b).2.1 := by decide +kernel
theorem t_K_ok : ∀ k, k < 17 → parseFieldDescriptor (T_K k).2.2.1 = some (t_K k) := by decide +kernel
def R_L : String := "ExtentDiskLaw"
def R_A : String := "java/util/Arrays"
abbrev vwCl : List vw_C := [(R_M, T_M, 6), (R_P, T_P, 4), (R_Tp, T_Tp, 2), (R_D, T_D, 7), (R_K, T_K, 17)]
theorem ew_mem {w : Cond} (i : Nat) (h : lw_tbl[i]? = some w) (hg : goodWord w = true) : w ∈ ew_T := List.mem_filter.mpr ⟨List.mem_of_getElem? h, hg⟩
theorem ew_0 : (.selects "ExtentDisk" ⟨"ExtentDisk", "makeNextCount", "()V"⟩ ⟨"ExtentDisk", "makeNextCount", "()V"⟩ : Cond) ∈ ew_T := ew_mem 0 (by decide +kernel) (by decide +kernel)
theorem ew_2 : (.selects "ExtentDisk" ⟨"ExtentDisk", "firstFreeRow", "(I)I"⟩ ⟨"ExtentDisk", "firstFreeRow", "(I)I"⟩ : Cond) ∈ ew_T := ew_mem 2 (by decide +kernel) (by decide +kernel)
theorem ew_3 : (.selects "ExtentDisk" ⟨"ExtentDisk", "carryOut", "(I)I"⟩ ⟨"ExtentDisk", "carryOut", "(I)I"⟩ : Cond) ∈ ew_T := ew_mem 3 (by decide +kernel) (by decide +kernel)
theorem ew_4 : (.selects "ExtentDisk" ⟨"ExtentDisk", "forget", "()V"⟩ ⟨"ExtentDisk", "forget", "()V"⟩ : Cond) ∈ ew_T := ew_mem 4 (by decide +kernel) (by decide +kernel)
theorem ew_5 : (.selects "ExtentDisk" ⟨"ExtentDisk", "freeBlocks", "()I"⟩ ⟨"ExtentDisk", "freeBlocks", "()I"⟩ : Cond) ∈ ew_T := ew_mem 5 (by decide +kernel) (by decide +kernel)
theorem ew_13 : (.initialized "ExtentDisk" : Cond) ∈ ew_T := ew_mem 13 (by decide +kernel) (by decide +kernel)
theorem ew_14 : (.initialized "java/lang/Math" : Cond) ∈ ew_T := ew_mem 14 (by decide +kernel) (by decide +kernel)
theorem ew_15 : (.initialized "ExtentDisk$Platter" : Cond) ∈ ew_T := ew_mem 15 (by decide +kernel) (by decide +kernel)
theorem ew_16 : (.initialized "ExtentDisk$Tape" : Cond) ∈ ew_T := ew_mem 16 (by decide +kernel) (by decide +kernel)
theorem ew_17 : (.initialized "ExtentDisk$Manifest" : Cond) ∈ ew_T := ew_mem 17 (by decide +kernel) (by decide +kernel)
theorem ew_22 : (.initialized "java/lang/IllegalArgumentException" : Cond) ∈ ew_T := ew_mem 22 (by decide +kernel) (by decide +kernel)
theorem ew_23 : (.initialized "java/lang/IllegalStateException" : Cond) ∈ ew_T := ew_mem 23 (by decide +kernel) (by decide +kernel)
theorem ew_24 : (.initialized "java/util/Arrays" : Cond) ∈ ew_T := ew_mem 24 (by decide +kernel) (by decide +kernel)
theorem ew_25 : (.initialized "java/lang/System" : Cond) ∈ ew_T := ew_mem 25 (by decide +kernel) (by decide +kernel)
theorem ew_30 : (.code ⟨"ExtentDisk", "<init>", "(I)V"⟩ prog_1_method_1_code 3 none : Cond) ∈ ew_T := ew_mem 30 rfl rfl
theorem ew_31 : (.methodLink "ExtentDisk" 1 ⟨"java/lang/Object", "<init>", "()V"⟩ : Cond) ∈ ew_T := ew_mem 31 (by decide +kernel) (by decide +kernel)
theorem ew_32 : (.instanceMethod ⟨"java/lang/Object", "<init>", "()V"⟩ : Cond) ∈ ew_T := ew_mem 32 (by decide +kernel) (by decide +kernel)
theorem ew_33 : (.code ⟨"java/lang/Object", "<init>", "()V"⟩ object_method_1_code 1 none : Cond) ∈ ew_T := ew_mem 33 rfl rfl
theorem ew_34 : (.methodLink "ExtentDisk" 9 ⟨"java/lang/Math", "min", "(II)I"⟩ : Cond) ∈ ew_T := ew_mem 34 (by decide +kernel) (by decide +kernel)
theorem ew_35 : (.static ⟨"java/lang/Math", "min", "(II)I"⟩ : Cond) ∈ ew_T := ew_mem 35 (by decide +kernel) (by decide +kernel)
theorem ew_36 : (.code ⟨"java/lang/Math", "min", "(II)I"⟩ prog_10_method_69_code 2 (some .int) : Cond) ∈ ew_T := ew_mem 36 rfl rfl
theorem ew_37 : (.methodLink "ExtentDisk" 15 ⟨"java/lang/Math", "max", "(II)I"⟩ : Cond) ∈ ew_T := ew_mem 37 (by decide +kernel) (by decide +kernel)
theorem ew_38 : (.static ⟨"java/lang/Math", "max", "(II)I"⟩ : Cond) ∈ ew_T := ew_mem 38 (by decide +kernel) (by decide +kernel)
theorem ew_39 : (.code ⟨"java/lang/Math", "max", "(II)I"⟩ prog_10_method_65_code 2 (some .int) : Cond) ∈ ew_T := ew_mem 39 rfl rfl
theorem ew_40 : (.classLink "ExtentDisk" 18 "ExtentDisk$Platter" : Cond) ∈ ew_T := ew_mem 40 (by decide +kernel) (by decide +kernel)
theorem ew_41 : (.instantiable "ExtentDisk$Platter" 4 : Cond) ∈ ew_T := ew_mem 41 (by decide +kernel) (by decide +kernel)
theorem ew_42 : (.methodLink "ExtentDisk" 20 ⟨"ExtentDisk$Platter", "<init>", "(I)V"⟩ : Cond) ∈ ew_T := ew_mem 42 (by decide +kernel) (by decide +kernel)
theorem ew_43 : (.instanceMethod ⟨"ExtentDisk$Platter", "<init>", "(I)V"⟩ : Cond) ∈ ew_T := ew_mem 43 (by decide +kernel) (by decide +kernel)
theorem ew_44 : (.code ⟨"ExtentDisk$Platter", "<init>", "(I)V"⟩ prog_3_method_1_code 2 none : Cond) ∈ ew_T := ew_mem 44 rfl rfl
theorem ew_45 : (.methodLink "ExtentDisk$Platter" 3 ⟨"java/lang/Object", "<init>", "()V"⟩ : Cond) ∈ ew_T := ew_mem 45 (by decide +kernel) (by decide +kernel)
theorem ew_46 : (.fieldLink "ExtentDisk$Platter" 9 "ExtentDisk$Platter" "bytes" "[B" : Cond) ∈ ew_T := ew_mem 46 (by decide +kernel) (by decide +kernel)
theorem ew_47 : (.fieldLink "ExtentDisk$Platter" 19 "ExtentDisk$Platter" "down" "Z" : Cond) ∈ ew_T := ew_mem 47 (by decide +kernel) (by decide +kernel)
theorem ew_48 : (.fieldLink "ExtentDisk" 62 "ExtentDisk$Platter" "down" "Z" : Cond) ∈ ew_T := ew_mem 48 (by decide +kernel) (by decide +kernel)
theorem ew_49 : (.fieldLink "ExtentDisk$Platter" 29 "ExtentDisk$Platter" "written" "I" : Cond) ∈ ew_T := ew_mem 49 (by decide +kernel) (by decide +kernel)
theorem ew_50 : (.fieldLink "ExtentDisk" 163 "ExtentDisk$Platter" "written" "I" : Cond) ∈ ew_T := ew_mem 50 (by decide +kernel) (by decide +kernel)
theorem ew_51 : (.fieldLink "ExtentDisk$Platter" 15 "ExtentDisk$Platter" "powerLeft" "I" : Cond) ∈ ew_T := ew_mem 51 (by decide +kernel) (by decide +kernel)
theorem ew_52 : (.laysFinal "ExtentDisk$Platter" "ExtentDisk$Platter" "bytes" "[B" : Cond) ∈ ew_T := ew_mem 52 (by decide +kernel) (by decide +kernel)
theorem ew_54 : (.lays "ExtentDisk$Platter" "ExtentDisk$Platter" "down" "Z" : Cond) ∈ ew_T := ew_mem 54 (by decide +kernel) (by decide +kernel)
theorem ew_56 : (.lays "ExtentDisk$Platter" "ExtentDisk$Platter" "written" "I" : Cond) ∈ ew_T := ew_mem 56 (by decide +kernel) (by decide +kernel)
theorem ew_58 : (.lays "ExtentDisk$Platter" "ExtentDisk$Platter" "powerLeft" "I" : Cond) ∈ ew_T := ew_mem 58 (by decide +kernel) (by decide +kernel)
theorem ew_61 : (.arrayClass .byte : Cond) ∈ ew_T := ew_mem 61 (by decide +kernel) (by decide +kernel)
theorem ew_62 : (.classLink "ExtentDisk" 27 "ExtentDisk$Tape" : Cond) ∈ ew_T := ew_mem 62 (by decide +kernel) (by decide +kernel)
theorem ew_63 : (.instantiable "ExtentDisk$Tape" 2 : Cond) ∈ ew_T := ew_mem 63 (by decide +kernel) (by decide +kernel)
theorem ew_64 : (.methodLink "ExtentDisk" 29 ⟨"ExtentDisk$Tape", "<init>", "(I)V"⟩ : Cond) ∈ ew_T := ew_mem 64 (by decide +kernel) (by decide +kernel)
theorem ew_65 : (.instanceMethod ⟨"ExtentDisk$Tape", "<init>", "(I)V"⟩ : Cond) ∈ ew_T := ew_mem 65 (by decide +kernel) (by decide +kernel)
theorem ew_66 : (.code ⟨"ExtentDisk$Tape", "<init>", "(I)V"⟩ prog_4_method_1_code 2 none : Cond) ∈ ew_T := ew_mem 66 rfl rfl
theorem ew_67 : (.methodLink "ExtentDisk$Tape" 3 ⟨"java/lang/Object", "<init>", "()V"⟩ : Cond) ∈ ew_T := ew_mem 67 (by decide +kernel) (by decide +kernel)
theorem ew_68 : (.fieldLink "ExtentDisk$Tape" 9 "ExtentDisk$Tape" "bytes" "[B" : Cond) ∈ ew_T := ew_mem 68 (by decide +kernel) (by decide +kernel)
theorem ew_69 : (.fieldLink "ExtentDisk" 173 "ExtentDisk$Tape" "bytes" "[B" : Cond) ∈ ew_T := ew_mem 69 (by decide +kernel) (by decide +kernel)
theorem ew_70 : (.fieldLink "ExtentDisk$Tape" 15 "ExtentDisk$Tape" "length" "I" : Cond) ∈ ew_T := ew_mem 70 (by decide +kernel) (by decide +kernel)
theorem ew_71 : (.fieldLink "ExtentDisk" 79 "ExtentDisk$Tape" "length" "I" : Cond) ∈ ew_T := ew_mem 71 (by decide +kernel) (by decide +kernel)
theorem ew_72 : (.laysFinal "ExtentDisk$Tape" "ExtentDisk$Tape" "bytes" "[B" : Cond) ∈ ew_T := ew_mem 72 (by decide +kernel) (by decide +kernel)
theorem ew_74 : (.lays "ExtentDisk$Tape" "ExtentDisk$Tape" "length" "I" : Cond) ∈ ew_T := ew_mem 74 (by decide +kernel) (by decide +kernel)
theorem ew_77 : (.classLink "ExtentDisk" 45 "ExtentDisk$Manifest" : Cond) ∈ ew_T := ew_mem 77 (by decide +kernel) (by decide +kernel)
theorem ew_78 : (.instantiable "ExtentDisk$Manifest" 6 : Cond) ∈ ew_T := ew_mem 78 (by decide +kernel) (by decide +kernel)
theorem ew_80 : (.instanceMethod ⟨"ExtentDisk$Manifest", "<init>", "()V"⟩ : Cond) ∈ ew_T := ew_mem 80 (by decide +kernel) (by decide +kernel)
theorem ew_81 : (.code ⟨"ExtentDisk$Manifest", "<init>", "()V"⟩ prog_2_method_1_code 1 none : Cond) ∈ ew_T := ew_mem 81 rfl rfl
theorem ew_82 : (.methodLink "ExtentDisk$Manifest" 5 ⟨"java/lang/Object", "<init>", "()V"⟩ : Cond) ∈ ew_T := ew_mem 82 (by decide +kernel) (by decide +kernel)
theorem ew_83 : (.fieldLink "ExtentDisk$Manifest" 11 "ExtentDisk$Manifest" "labels" "[I" : Cond) ∈ ew_T := ew_mem 83 (by decide +kernel) (by decide +kernel)
theorem ew_84 : (.fieldLink "ExtentDisk" 120 "ExtentDisk$Manifest" "labels" "[I" : Cond) ∈ ew_T := ew_mem 84 (by decide +kernel) (by decide +kernel)
theorem ew_85 : (.fieldLink "ExtentDisk$Manifest" 15 "ExtentDisk$Manifest" "firsts" "[I" : Cond) ∈ ew_T := ew_mem 85 (by decide +kernel) (by decide +kernel)
theorem ew_86 : (.fieldLink "ExtentDisk" 123 "ExtentDisk$Manifest" "firsts" "[I" : Cond) ∈ ew_T := ew_mem 86 (by decide +kernel) (by decide +kernel)
theorem ew_87 : (.fieldLink "ExtentDisk$Manifest" 18 "ExtentDisk$Manifest" "sizes" "[I" : Cond) ∈ ew_T := ew_mem 87 (by decide +kernel) (by decide +kernel)
theorem ew_88 : (.fieldLink "ExtentDisk" 126 "ExtentDisk$Manifest" "sizes" "[I" : Cond) ∈ ew_T := ew_mem 88 (by decide +kernel) (by decide +kernel)
theorem ew_89 : (.fieldLink "ExtentDisk$Manifest" 21 "ExtentDisk$Manifest" "notes" "[I" : Cond) ∈ ew_T := ew_mem 89 (by decide +kernel) (by decide +kernel)
theorem ew_90 : (.fieldLink "ExtentDisk" 90 "ExtentDisk$Manifest" "notes" "[I" : Cond) ∈ ew_T := ew_mem 90 (by decide +kernel) (by decide +kernel)
theorem ew_91 : (.fieldLink "ExtentDisk$Manifest" 24 "ExtentDisk$Manifest" "extents" "I" : Cond) ∈ ew_T := ew_mem 91 (by decide +kernel) (by decide +kernel)
theorem ew_92 : (.fieldLink "ExtentDisk" 160 "ExtentDisk$Manifest" "extents" "I" : Cond) ∈ ew_T := ew_mem 92 (by decide +kernel) (by decide +kernel)
theorem ew_93 : (.fieldLink "ExtentDisk$Manifest" 28 "ExtentDisk$Manifest" "changes" "I" : Cond) ∈ ew_T := ew_mem 93 (by decide +kernel) (by decide +kernel)
theorem ew_94 : (.fieldLink "ExtentDisk" 148 "ExtentDisk$Manifest" "changes" "I" : Cond) ∈ ew_T := ew_mem 94 (by decide +kernel) (by decide +kernel)
theorem ew_95 : (.laysFinal "ExtentDisk$Manifest" "ExtentDisk$Manifest" "labels" "[I" : Cond) ∈ ew_T := ew_mem 95 (by decide +kernel) (by decide +kernel)
theorem ew_97 : (.laysFinal "ExtentDisk$Manifest" "ExtentDisk$Manifest" "firsts" "[I" : Cond) ∈ ew_T := ew_mem 97 (by decide +kernel) (by decide +kernel)
theorem ew_99 : (.laysFinal "ExtentDisk$Manifest" "ExtentDisk$Manifest" "sizes" "[I" : Cond) ∈ ew_T := ew_mem 99 (by decide +kernel) (by decide +kernel)
theorem ew_101 : (.laysFinal "ExtentDisk$Manifest" "ExtentDisk$Manifest" "notes" "[I" : Cond) ∈ ew_T := ew_mem 101 (by decide +kernel) (by decide +kernel)
theorem ew_103 : (.lays "ExtentDisk$Manifest" "ExtentDisk$Manifest" "extents" "I" : Cond) ∈ ew_T := ew_mem 103 (by decide +kernel) (by decide +kernel)
theorem ew_105 : (.lays "ExtentDisk$Manifest" "ExtentDisk$Manifest" "changes" "I" : Cond) ∈ ew_T := ew_mem 105 (by decide +kernel) (by decide +kernel)
theorem ew_108 : (.arrayClass .int : Cond) ∈ ew_T := ew_mem 108 (by decide +kernel) (by decide +kernel)
theorem ew_109 : (.fieldLink "ExtentDisk" 23 "ExtentDisk" "platter" "LExtentDisk$Platter;" : Cond) ∈ ew_T := ew_mem 109 (by decide +kernel) (by decide +kernel)
theorem ew_110 : (.fieldLink "ExtentDisk" 30 "ExtentDisk" "tape" "LExtentDisk$Tape;" : Cond) ∈ ew_T := ew_mem 110 (by decide +kernel) (by decide +kernel)
theorem ew_111 : (.fieldLink "ExtentDisk" 34 "ExtentDisk" "wishes" "[I" : Cond) ∈ ew_T := ew_mem 111 (by decide +kernel) (by decide +kernel)
theorem ew_112 : (.fieldLink "ExtentDisk" 38 "ExtentDisk" "page" "[B" : Cond) ∈ ew_T := ew_mem 112 (by decide +kernel) (by decide +kernel)
theorem ew_113 : (.fieldLink "ExtentDisk" 42 "ExtentDisk" "tenants" "[I" : Cond) ∈ ew_T := ew_mem 113 (by decide +kernel) (by decide +kernel)
theorem ew_114 : (.fieldLink "ExtentDisk" 48 "ExtentDisk" "now" "LExtentDisk$Manifest;" : Cond) ∈ ew_T := ew_mem 114 (by decide +kernel) (by decide +kernel)
theorem ew_115 : (.fieldLink "ExtentDisk" 52 "ExtentDisk" "next" "LExtentDisk$Manifest;" : Cond) ∈ ew_T := ew_mem 115 (by decide +kernel) (by decide +kernel)
theorem ew_116 : (.laysFinal "ExtentDisk" "ExtentDisk" "platter" "LExtentDisk$Platter;" : Cond) ∈ ew_T := ew_mem 116 (by decide +kernel) (by decide +kernel)
theorem ew_118 : (.laysFinal "ExtentDisk" "ExtentDisk" "tape" "LExtentDisk$Tape;" : Cond) ∈ ew_T := ew_mem 118 (by decide +kernel) (by decide +kernel)
theorem ew_120 : (.laysFinal "ExtentDisk" "ExtentDisk" "wishes" "[I" : Cond) ∈ ew_T := ew_mem 120 (by decide +kernel) (by decide +kernel)
theorem ew_122 : (.laysFinal "ExtentDisk" "ExtentDisk" "page" "[B" : Cond) ∈ ew_T := ew_mem 122 (by decide +kernel) (by decide +kernel)
theorem ew_124 : (.laysFinal "ExtentDisk" "ExtentDisk" "tenants" "[I" : Cond) ∈ ew_T := ew_mem 124 (by decide +kernel) (by decide +kernel)
theorem ew_126 : (.lays "ExtentDisk" "ExtentDisk" "now" "LExtentDisk$Manifest;" : Cond) ∈ ew_T := ew_mem 126 (by decide +kernel) (by decide +kernel)
theorem ew_128 : (.lays "ExtentDisk" "ExtentDisk" "next" "LExtentDisk$Manifest;" : Cond) ∈ ew_T := ew_mem 128 (by decide +kernel) (by decide +kernel)
theorem ew_134 : (.code ⟨"ExtentDisk", "recover", "()I"⟩ prog_1_method_11_code 1 (some .int) : Cond) ∈ ew_T := ew_mem 134 rfl rfl
theorem ew_135 : (.methodLink "ExtentDisk" 138 ⟨"ExtentDisk$Platter", "limitPower", "(I)V"⟩ : Cond) ∈ ew_T := ew_mem 135 (by decide +kernel) (by decide +kernel)
theorem ew_136 : (.instanceMethod ⟨"ExtentDisk$Platter", "limitPower", "(I)V"⟩ : Cond) ∈ ew_T := ew_mem 136 (by decide +kernel) (by decide +kernel)
theorem ew_137 : (.selects "ExtentDisk$Platter" ⟨"ExtentDisk$Platter", "limitPower", "(I)V"⟩ ⟨"ExtentDisk$Platter", "limitPower", "(I)V"⟩ : Cond) ∈ ew_T := ew_mem 137 (by decide +kernel) (by decide +kernel)
theorem ew_138 : (.code ⟨"ExtentDisk$Platter", "limitPower", "(I)V"⟩ prog_3_method_2_code 2 none : Cond) ∈ ew_T := ew_mem 138 rfl rfl
theorem ew_139 : (.methodLink "ExtentDisk" 144 ⟨"ExtentDisk$Manifest", "load", "(LExtentDisk$Platter;I)V"⟩ : Cond) ∈ ew_T := ew_mem 139 (by decide +kernel) (by decide +kernel)
theorem ew_140 : (.instanceMethod ⟨"ExtentDisk$Manifest", "load", "(LExtentDisk$Platter;I)V"⟩ : Cond) ∈ ew_T := ew_mem 140 (by decide +kernel) (by decide +kernel)
theorem ew_141 : (.selects "ExtentDisk$Manifest" ⟨"ExtentDisk$Manifest", "load", "(LExtentDisk$Platter;I)V"⟩ ⟨"ExtentDisk$Manifest", "load", "(LExtentDisk$Platter;I)V"⟩ : Cond) ∈ ew_T := ew_mem 141 (by decide +kernel) (by decide +kernel)
theorem ew_142 : (.code ⟨"ExtentDisk$Manifest", "load", "(LExtentDisk$Platter;I)V"⟩ prog_2_method_9_code 7 none : Cond) ∈ ew_T := ew_mem 142 rfl rfl
theorem ew_143 : (.methodLink "ExtentDisk$Manifest" 37 ⟨"ExtentDisk$Manifest", "clear", "()V"⟩ : Cond) ∈ ew_T := ew_mem 143 (by decide +kernel) (by decide +kernel)
theorem ew_144 : (.instanceMethod ⟨"ExtentDisk$Manifest", "clear", "()V"⟩ : Cond) ∈ ew_T := ew_mem 144 (by decide +kernel) (by decide +kernel)
theorem ew_145 : (.selects "ExtentDisk$Manifest" ⟨"ExtentDisk$Manifest", "clear", "()V"⟩ ⟨"ExtentDisk$Manifest", "clear", "()V"⟩ : Cond) ∈ ew_T := ew_mem 145 (by decide +kernel) (by decide +kernel)
theorem ew_146 : (.code ⟨"ExtentDisk$Manifest", "clear", "()V"⟩ prog_2_method_3_code 1 none : Cond) ∈ ew_T := ew_mem 146 rfl rfl
theorem ew_147 : (.methodLink "ExtentDisk$Manifest" 31 ⟨"java/util/Arrays", "fill", "([II)V"⟩ : Cond) ∈ ew_T := ew_mem 147 (by decide +kernel) (by decide +kernel)
theorem ew_148 : (.static ⟨"java/util/Arrays", "fill", "([II)V"⟩ : Cond) ∈ ew_T := ew_mem 148 (by decide +kernel) (by decide +kernel)
theorem ew_149 : (.code ⟨"java/util/Arrays", "fill", "([II)V"⟩ prog_15_method_103_code 4 none : Cond) ∈ ew_T := ew_mem 149 rfl rfl
theorem ew_150 : (.methodLink "ExtentDisk$Manifest" 58 ⟨"ExtentDisk$Platter", "readInt", "(I)I"⟩ : Cond) ∈ ew_T := ew_mem 150 (by decide +kernel) (by decide +kernel)
theorem ew_151 : (.instanceMethod ⟨"ExtentDisk$Platter", "readInt", "(I)I"⟩ : Cond) ∈ ew_T := ew_mem 151 (by decide +kernel) (by decide +kernel)
theorem ew_152 : (.selects "ExtentDisk$Platter" ⟨"ExtentDisk$Platter", "readInt", "(I)I"⟩ ⟨"ExtentDisk$Platter", "readInt", "(I)I"⟩ : Cond) ∈ ew_T := ew_mem 152 (by decide +kernel) (by decide +kernel)
theorem ew_153 : (.code ⟨"ExtentDisk$Platter", "readInt", "(I)I"⟩ prog_3_method_5_code 2 (some .int) : Cond) ∈ ew_T := ew_mem 153 rfl rfl
theorem ew_154 : (.methodLink "ExtentDisk$Platter" 36 ⟨"ExtentDisk$Platter", "read", "(I)I"⟩ : Cond) ∈ ew_T := ew_mem 154 (by decide +kernel) (by decide +kernel)
theorem ew_155 : (.instanceMethod ⟨"ExtentDisk$Platter", "read", "(I)I"⟩ : Cond) ∈ ew_T := ew_mem 155 (by decide +kernel) (by decide +kernel)
theorem ew_156 : (.selects "ExtentDisk$Platter" ⟨"ExtentDisk$Platter", "read", "(I)I"⟩ ⟨"ExtentDisk$Platter", "read", "(I)I"⟩ : Cond) ∈ ew_T := ew_mem 156 (by decide +kernel) (by decide +kernel)
theorem ew_157 : (.code ⟨"ExtentDisk$Platter", "read", "(I)I"⟩ prog_3_method_4_code 2 (some .int) : Cond) ∈ ew_T := ew_mem 157 rfl rfl
theorem ew_158 : (.methodLink "ExtentDisk$Manifest" 63 ⟨"java/lang/Math", "min", "(II)I"⟩ : Cond) ∈ ew_T := ew_mem 158 (by decide +kernel) (by decide +kernel)
theorem ew_159 : (.methodLink "ExtentDisk$Manifest" 40 ⟨"ExtentDisk$Manifest", "add", "(III)Z"⟩ : Cond) ∈ ew_T := ew_mem 159 (by decide +kernel) (by decide +kernel)
theorem ew_160 : (.instanceMethod ⟨"ExtentDisk$Manifest", "add", "(III)Z"⟩ : Cond) ∈ ew_T := ew_mem 160 (by decide +kernel) (by decide +kernel)
theorem ew_161 : (.selects "ExtentDisk$Manifest" ⟨"ExtentDisk$Manifest", "add", "(III)Z"⟩ ⟨"ExtentDisk$Manifest", "add", "(III)Z"⟩ : Cond) ∈ ew_T := ew_mem 161 (by decide +kernel) (by decide +kernel)
theorem ew_162 : (.code ⟨"ExtentDisk$Manifest", "add", "(III)Z"⟩ prog_2_method_4_code 4 (some .boolean) : Cond) ∈ ew_T := ew_mem 162 rfl rfl
theorem ew_163 : (.methodLink "ExtentDisk" 151 ⟨"ExtentDisk", "makeNextCount", "()V"⟩ : Cond) ∈ ew_T := ew_mem 163 (by decide +kernel) (by decide +kernel)
theorem ew_165 : (.instanceMethod ⟨"ExtentDisk", "makeNextCount", "()V"⟩ : Cond) ∈ ew_T := ew_mem 165 (by decide +kernel) (by decide +kernel)
theorem ew_166 : (.code ⟨"ExtentDisk", "makeNextCount", "()V"⟩ prog_1_method_20_code 2 none : Cond) ∈ ew_T := ew_mem 166 rfl rfl
theorem ew_167 : (.methodLink "ExtentDisk" 154 ⟨"java/lang/System", "arraycopy", "(Ljava/lang/Object;ILjava/lang/Object;II)V"⟩ : Cond) ∈ ew_T := ew_mem 167 (by decide +kernel) (by decide +kernel)
theorem ew_168 : (.static ⟨"java/lang/System", "arraycopy", "(Ljava/lang/Object;ILjava/lang/Object;II)V"⟩ : Cond) ∈ ew_T := ew_mem 168 (by decide +kernel) (by decide +kernel)
theorem ew_169 : (.native ⟨"java/lang/System", "arraycopy", "(Ljava/lang/Object;ILjava/lang/Object;II)V"⟩ : Cond) ∈ ew_T := ew_mem 169 (by decide +kernel) (by decide +kernel)
theorem ew_173 : (.code ⟨"ExtentDisk", "isDown", "()Z"⟩ prog_1_method_12_code 1 (some .boolean) : Cond) ∈ ew_T := ew_mem 173 rfl rfl
theorem ew_177 : (.code ⟨"ExtentDisk", "writes", "()I"⟩ prog_1_method_13_code 1 (some .int) : Cond) ∈ ew_T := ew_mem 177 rfl rfl
theorem ew_189 : (.code ⟨"ExtentDisk", "put", "(JI)I"⟩ prog_1_method_2_code 5 (some .int) : Cond) ∈ ew_T := ew_mem 189 rfl rfl
theorem ew_190 : (.classLink "ExtentDisk" 55 "java/lang/IllegalArgumentException" : Cond) ∈ ew_T := ew_mem 190 (by decide +kernel) (by decide +kernel)
theorem ew_256 : (.methodLink "ExtentDisk" 66 ⟨"ExtentDisk$Tape", "hasRoomFor", "(I)Z"⟩ : Cond) ∈ ew_T := ew_mem 256 (by decide +kernel) (by decide +kernel)
theorem ew_257 : (.instanceMethod ⟨"ExtentDisk$Tape", "hasRoomFor", "(I)Z"⟩ : Cond) ∈ ew_T := ew_mem 257 (by decide +kernel) (by decide +kernel)
theorem ew_258 : (.selects "ExtentDisk$Tape" ⟨"ExtentDisk$Tape", "hasRoomFor", "(I)Z"⟩ ⟨"ExtentDisk$Tape", "hasRoomFor", "(I)Z"⟩ : Cond) ∈ ew_T := ew_mem 258 (by decide +kernel) (by decide +kernel)
theorem ew_259 : (.code ⟨"ExtentDisk$Tape", "hasRoomFor", "(I)Z"⟩ prog_4_method_2_code 2 (some .boolean) : Cond) ∈ ew_T := ew_mem 259 rfl rfl
theorem ew_260 : (.classLink "ExtentDisk" 70 "java/lang/IllegalStateException" : Cond) ∈ ew_T := ew_mem 260 (by decide +kernel) (by decide +kernel)
theorem ew_276 : (.methodLink "ExtentDisk" 75 ⟨"ExtentDisk$Tape", "append", "(B)V"⟩ : Cond) ∈ ew_T := ew_mem 276 (by decide +kernel) (by decide +kernel)
theorem ew_277 : (.instanceMethod ⟨"ExtentDisk$Tape", "append", "(B)V"⟩ : Cond) ∈ ew_T := ew_mem 277 (by decide +kernel) (by decide +kernel)
theorem ew_278 : (.selects "ExtentDisk$Tape" ⟨"ExtentDisk$Tape", "append", "(B)V"⟩ ⟨"ExtentDisk$Tape", "append", "(B)V"⟩ : Cond) ∈ ew_T := ew_mem 278 (by decide +kernel) (by decide +kernel)
theorem ew_279 : (.code ⟨"ExtentDisk$Tape", "append", "(B)V"⟩ prog_4_method_3_code 2 none : Cond) ∈ ew_T := ew_mem 279 rfl rfl
theorem ew_286 : (.code ⟨"ExtentDisk", "fill", "(II)I"⟩ prog_1_method_3_code 4 (some .int) : Cond) ∈ ew_T := ew_mem 286 rfl rfl
theorem ew_287 : (.constant "ExtentDisk" 83 100000 : Cond) ∈ ew_T := ew_mem 287 (by decide +kernel) (by decide +kernel)
theorem ew_295 : (.code ⟨"ExtentDisk", "drop", "()I"⟩ prog_1_method_4_code 2 (some .int) : Cond) ∈ ew_T := ew_mem 295 rfl rfl
theorem ew_303 : (.code ⟨"ExtentDisk", "wish", "(II)I"⟩ prog_1_method_5_code 4 (some .int) : Cond) ∈ ew_T := ew_mem 303 rfl rfl
theorem ew_311 : (.code ⟨"ExtentDisk", "note", "(I)I"⟩ prog_1_method_6_code 2 (some .int) : Cond) ∈ ew_T := ew_mem 311 rfl rfl
theorem ew_318 : (.code ⟨"ExtentDisk", "change", "(III)I"⟩ prog_1_method_7_code 5 (some .int) : Cond) ∈ ew_T := ew_mem 318 rfl rfl
theorem ew_319 : (.methodLink "ExtentDisk" 93 ⟨"ExtentDisk$Manifest", "follow", "(LExtentDisk$Manifest;II)V"⟩ : Cond) ∈ ew_T := ew_mem 319 (by decide +kernel) (by decide +kernel)
theorem ew_320 : (.instanceMethod ⟨"ExtentDisk$Manifest", "follow", "(LExtentDisk$Manifest;II)V"⟩ : Cond) ∈ ew_T := ew_mem 320 (by decide +kernel) (by decide +kernel)
theorem ew_321 : (.selects "ExtentDisk$Manifest" ⟨"ExtentDisk$Manifest", "follow", "(LExtentDisk$Manifest;II)V"⟩ ⟨"ExtentDisk$Manifest", "follow", "(LExtentDisk$Manifest;II)V"⟩ : Cond) ∈ ew_T := ew_mem 321 (by decide +kernel) (by decide +kernel)
theorem ew_322 : (.code ⟨"ExtentDisk$Manifest", "follow", "(LExtentDisk$Manifest;II)V"⟩ prog_2_method_5_code 6 none : Cond) ∈ ew_T := ew_mem 322 rfl rfl
theorem ew_323 : (.methodLink "ExtentDisk" 97 ⟨"ExtentDisk$Manifest", "takeNotes", "([I)V"⟩ : Cond) ∈ ew_T := ew_mem 323 (by decide +kernel) (by decide +kernel)
theorem ew_324 : (.instanceMethod ⟨"ExtentDisk$Manifest", "takeNotes", "([I)V"⟩ : Cond) ∈ ew_T := ew_mem 324 (by decide +kernel) (by decide +kernel)
theorem ew_325 : (.selects "ExtentDisk$Manifest" ⟨"ExtentDisk$Manifest", "takeNotes", "([I)V"⟩ ⟨"ExtentDisk$Manifest", "takeNotes", "([I)V"⟩ : Cond) ∈ ew_T := ew_mem 325 (by decide +kernel) (by decide +kernel)
theorem ew_326 : (.code ⟨"ExtentDisk$Manifest", "takeNotes", "([I)V"⟩ prog_2_method_6_code 3 none : Cond) ∈ ew_T := ew_mem 326 rfl rfl
theorem ew_327 : (.methodLink "ExtentDisk" 101 ⟨"ExtentDisk", "blocksFor", "(I)I"⟩ : Cond) ∈ ew_T := ew_mem 327 (by decide +kernel) (by decide +kernel)
theorem ew_328 : (.static ⟨"ExtentDisk", "blocksFor", "(I)I"⟩ : Cond) ∈ ew_T := ew_mem 328 (by decide +kernel) (by decide +kernel)
theorem ew_329 : (.code ⟨"ExtentDisk", "blocksFor", "(I)I"⟩ prog_1_method_16_code 1 (some .int) : Cond) ∈ ew_T := ew_mem 329 rfl rfl
theorem ew_330 : (.methodLink "ExtentDisk" 105 ⟨"ExtentDisk", "firstFreeRow", "(I)I"⟩ : Cond) ∈ ew_T := ew_mem 330 (by decide +kernel) (by decide +kernel)
theorem ew_332 : (.instanceMethod ⟨"ExtentDisk", "firstFreeRow", "(I)I"⟩ : Cond) ∈ ew_T := ew_mem 332 (by decide +kernel) (by decide +kernel)
theorem ew_333 : (.code ⟨"ExtentDisk", "firstFreeRow", "(I)I"⟩ prog_1_method_18_code 4 (some .int) : Cond) ∈ ew_T := ew_mem 333 rfl rfl
theorem ew_334 : (.methodLink "ExtentDisk" 170 ⟨"ExtentDisk$Manifest", "countTenants", "([I)V"⟩ : Cond) ∈ ew_T := ew_mem 334 (by decide +kernel) (by decide +kernel)
theorem ew_335 : (.instanceMethod ⟨"ExtentDisk$Manifest", "countTenants", "([I)V"⟩ : Cond) ∈ ew_T := ew_mem 335 (by decide +kernel) (by decide +kernel)
theorem ew_336 : (.selects "ExtentDisk$Manifest" ⟨"ExtentDisk$Manifest", "countTenants", "([I)V"⟩ ⟨"ExtentDisk$Manifest", "countTenants", "([I)V"⟩ : Cond) ∈ ew_T := ew_mem 336 (by decide +kernel) (by decide +kernel)
theorem ew_337 : (.code ⟨"ExtentDisk$Manifest", "countTenants", "([I)V"⟩ prog_2_method_7_code 5 none : Cond) ∈ ew_T := ew_mem 337 rfl rfl
theorem ew_339 : (.methodLink "ExtentDisk$Manifest" 48 ⟨"java/lang/Math", "max", "(II)I"⟩ : Cond) ∈ ew_T := ew_mem 339 (by decide +kernel) (by decide +kernel)
theorem ew_340 : (.methodLink "ExtentDisk" 108 ⟨"ExtentDisk$Manifest", "add", "(III)Z"⟩ : Cond) ∈ ew_T := ew_mem 340 (by decide +kernel) (by decide +kernel)
theorem ew_341 : (.methodLink "ExtentDisk" 112 ⟨"ExtentDisk", "carryOut", "(I)I"⟩ : Cond) ∈ ew_T := ew_mem 341 (by decide +kernel) (by decide +kernel)
theorem ew_343 : (.instanceMethod ⟨"ExtentDisk", "carryOut", "(I)I"⟩ : Cond) ∈ ew_T := ew_mem 343 (by decide +kernel) (by decide +kernel)
theorem ew_344 : (.code ⟨"ExtentDisk", "carryOut", "(I)I"⟩ prog_1_method_19_code 4 (some .int) : Cond) ∈ ew_T := ew_mem 344 rfl rfl
theorem ew_345 : (.methodLink "ExtentDisk" 176 ⟨"ExtentDisk$Platter", "writeBlock", "(I[BI)Z"⟩ : Cond) ∈ ew_T := ew_mem 345 (by decide +kernel) (by decide +kernel)
theorem ew_346 : (.instanceMethod ⟨"ExtentDisk$Platter", "writeBlock", "(I[BI)Z"⟩ : Cond) ∈ ew_T := ew_mem 346 (by decide +kernel) (by decide +kernel)
theorem ew_347 : (.selects "ExtentDisk$Platter" ⟨"ExtentDisk$Platter", "writeBlock", "(I[BI)Z"⟩ ⟨"ExtentDisk$Platter", "writeBlock", "(I[BI)Z"⟩ : Cond) ∈ ew_T := ew_mem 347 (by decide +kernel) (by decide +kernel)
theorem ew_348 : (.code ⟨"ExtentDisk$Platter", "writeBlock", "(I[BI)Z"⟩ prog_3_method_3_code 5 (some .boolean) : Cond) ∈ ew_T := ew_mem 348 rfl rfl
theorem ew_349 : (.methodLink "ExtentDisk$Platter" 23 ⟨"java/lang/System", "arraycopy", "(Ljava/lang/Object;ILjava/lang/Object;II)V"⟩ : Cond) ∈ ew_T := ew_mem 349 (by decide +kernel) (by decide +kernel)
theorem ew_350 : (.methodLink "ExtentDisk$Platter" 32 ⟨"ExtentDisk$Platter", "limitPower", "(I)V"⟩ : Cond) ∈ ew_T := ew_mem 350 (by decide +kernel) (by decide +kernel)
theorem ew_351 : (.methodLink "ExtentDisk" 141 ⟨"ExtentDisk", "forget", "()V"⟩ : Cond) ∈ ew_T := ew_mem 351 (by decide +kernel) (by decide +kernel)
theorem ew_353 : (.instanceMethod ⟨"ExtentDisk", "forget", "()V"⟩ : Cond) ∈ ew_T := ew_mem 353 (by decide +kernel) (by decide +kernel)
theorem ew_354 : (.code ⟨"ExtentDisk", "forget", "()V"⟩ prog_1_method_21_code 1 none : Cond) ∈ ew_T := ew_mem 354 rfl rfl
theorem ew_355 : (.methodLink "ExtentDisk" 184 ⟨"ExtentDisk$Manifest", "clear", "()V"⟩ : Cond) ∈ ew_T := ew_mem 355 (by decide +kernel) (by decide +kernel)
theorem ew_356 : (.methodLink "ExtentDisk" 187 ⟨"java/util/Arrays", "fill", "([II)V"⟩ : Cond) ∈ ew_T := ew_mem 356 (by decide +kernel) (by decide +kernel)
theorem ew_357 : (.methodLink "ExtentDisk" 180 ⟨"ExtentDisk$Manifest", "store", "([B)V"⟩ : Cond) ∈ ew_T := ew_mem 357 (by decide +kernel) (by decide +kernel)
theorem ew_358 : (.instanceMethod ⟨"ExtentDisk$Manifest", "store", "([B)V"⟩ : Cond) ∈ ew_T := ew_mem 358 (by decide +kernel) (by decide +kernel)
theorem ew_359 : (.selects "ExtentDisk$Manifest" ⟨"ExtentDisk$Manifest", "store", "([B)V"⟩ ⟨"ExtentDisk$Manifest", "store", "([B)V"⟩ : Cond) ∈ ew_T := ew_mem 359 (by decide +kernel) (by decide +kernel)
theorem ew_360 : (.code ⟨"ExtentDisk$Manifest", "store", "([B)V"⟩ prog_2_method_8_code 4 none : Cond) ∈ ew_T := ew_mem 360 rfl rfl
theorem ew_361 : (.methodLink "ExtentDisk$Manifest" 54 ⟨"ExtentDisk$Manifest", "storeInt", "([BII)V"⟩ : Cond) ∈ ew_T := ew_mem 361 (by decide +kernel) (by decide +kernel)
theorem ew_362 : (.static ⟨"ExtentDisk$Manifest", "storeInt", "([BII)V"⟩ : Cond) ∈ ew_T := ew_mem 362 (by decide +kernel) (by decide +kernel)
theorem ew_363 : (.code ⟨"ExtentDisk$Manifest", "storeInt", "([BII)V"⟩ prog_2_method_10_code 3 none : Cond) ∈ ew_T := ew_mem 363 rfl rfl
theorem ew_370 : (.code ⟨"ExtentDisk", "extent", "(II)I"⟩ prog_1_method_8_code 3 (some .int) : Cond) ∈ ew_T := ew_mem 370 rfl rfl
theorem ew_371 : (.methodLink "ExtentDisk" 115 ⟨"ExtentDisk$Manifest", "holds", "(I)Z"⟩ : Cond) ∈ ew_T := ew_mem 371 (by decide +kernel) (by decide +kernel)
theorem ew_372 : (.instanceMethod ⟨"ExtentDisk$Manifest", "holds", "(I)Z"⟩ : Cond) ∈ ew_T := ew_mem 372 (by decide +kernel) (by decide +kernel)
theorem ew_373 : (.selects "ExtentDisk$Manifest" ⟨"ExtentDisk$Manifest", "holds", "(I)Z"⟩ ⟨"ExtentDisk$Manifest", "holds", "(I)Z"⟩ : Cond) ∈ ew_T := ew_mem 373 (by decide +kernel) (by decide +kernel)
theorem ew_374 : (.code ⟨"ExtentDisk$Manifest", "holds", "(I)Z"⟩ prog_2_method_2_code 2 (some .boolean) : Cond) ∈ ew_T := ew_mem 374 rfl rfl
theorem ew_383 : (.code ⟨"ExtentDisk", "byteAt", "(II)I"⟩ prog_1_method_9_code 3 (some .int) : Cond) ∈ ew_T := ew_mem 383 rfl rfl
theorem ew_385 : (.methodLink "ExtentDisk" 133 ⟨"ExtentDisk$Platter", "read", "(I)I"⟩ : Cond) ∈ ew_T := ew_mem 385 (by decide +kernel) (by decide +kernel)
theorem ew_392 : (.code ⟨"ExtentDisk", "crash", "(I)V"⟩ prog_1_method_10_code 2 none : Cond) ∈ ew_T := ew_mem 392 rfl rfl
theorem ew_400 : (.code ⟨"ExtentDisk", "count", "(I)I"⟩ prog_1_method_14_code 2 (some .int) : Cond) ∈ ew_T := ew_mem 400 rfl rfl
theorem ew_401 : (.methodLink "ExtentDisk" 166 ⟨"ExtentDisk", "freeBlocks", "()I"⟩ : Cond) ∈ ew_T := ew_mem 401 (by decide +kernel) (by decide +kernel)
theorem ew_403 : (.instanceMethod ⟨"ExtentDisk", "freeBlocks", "()I"⟩ : Cond) ∈ ew_T := ew_mem 403 (by decide +kernel) (by decide +kernel)
theorem ew_404 : (.code ⟨"ExtentDisk", "freeBlocks", "()I"⟩ prog_1_method_17_code 3 (some .int) : Cond) ∈ ew_T := ew_mem 404 rfl rfl
theorem ew_411 : (.code ⟨"ExtentDisk", "doubled", "()I"⟩ prog_1_method_15_code 3 (some .int) : Cond) ∈ ew_T := ew_mem 411 rfl rfl
theorem ew_419 : (.fieldLink "ExtentDiskModel" 47 "ExtentDiskModel" "code" "I" : Cond) ∈ ew_T := ew_mem 419 (by decide +kernel) (by decide +kernel)
theorem ew_420 : (.fieldLink "ExtentDiskModel" 44 "ExtentDiskModel" "blocks" "I" : Cond) ∈ ew_T := ew_mem 420 (by decide +kernel) (by decide +kernel)
theorem ew_421 : (.fieldLink "ExtentDiskModel" 50 "ExtentDiskModel" "down" "Z" : Cond) ∈ ew_T := ew_mem 421 (by decide +kernel) (by decide +kernel)
theorem ew_422 : (.fieldLink "ExtentDiskModel" 75 "ExtentDiskModel" "writes" "I" : Cond) ∈ ew_T := ew_mem 422 (by decide +kernel) (by decide +kernel)
theorem ew_429 : (.fieldLink "ExtentDiskModel" 26 "ExtentDiskModel" "note" "[I" : Cond) ∈ ew_T := ew_mem 429 (by decide +kernel) (by decide +kernel)
theorem ew_433 : (.fieldLink "ExtentDiskModel" 38 "ExtentDiskModel" "wish" "[I" : Cond) ∈ ew_T := ew_mem 433 (by decide +kernel) (by decide +kernel)
theorem ew_434 : (.fieldLink "ExtentDiskModel" 54 "ExtentDiskModel" "taped" "I" : Cond) ∈ ew_T := ew_mem 434 (by decide +kernel) (by decide +kernel)
theorem ew_435 : (.fieldLink "ExtentDiskModel" 41 "ExtentDiskModel" "tape" "[B" : Cond) ∈ ew_T := ew_mem 435 (by decide +kernel) (by decide +kernel)
theorem ew_436 : (.lays "ExtentDiskModel" "ExtentDiskModel" "code" "I" : Cond) ∈ ew_T := ew_mem 436 (by decide +kernel) (by decide +kernel)
theorem ew_438 : (.laysFinal "ExtentDiskModel" "ExtentDiskModel" "blocks" "I" : Cond) ∈ ew_T := ew_mem 438 (by decide +kernel) (by decide +kernel)
theorem ew_440 : (.lays "ExtentDiskModel" "ExtentDiskModel" "down" "Z" : Cond) ∈ ew_T := ew_mem 440 (by decide +kernel) (by decide +kernel)
theorem ew_442 : (.lays "ExtentDiskModel" "ExtentDiskModel" "writes" "I" : Cond) ∈ ew_T := ew_mem 442 (by decide +kernel) (by decide +kernel)
theorem ew_444 : (.lays "ExtentDiskModel" "ExtentDiskModel" "left" "I" : Cond) ∈ ew_T := ew_mem 444 (by decide +kernel) (by decide +kernel)
theorem ew_446 : (.lays "ExtentDiskModel" "ExtentDiskModel" "extents" "I" : Cond) ∈ ew_T := ew_mem 446 (by decide +kernel) (by decide +kernel)
theorem ew_448 : (.laysFinal "ExtentDiskModel" "ExtentDiskModel" "label" "[I" : Cond) ∈ ew_T := ew_mem 448 (by decide +kernel) (by decide +kernel)
theorem ew_450 : (.laysFinal "ExtentDiskModel" "ExtentDiskModel" "first" "[I" : Cond) ∈ ew_T := ew_mem 450 (by decide +kernel) (by decide +kernel)
theorem ew_452 : (.laysFinal "ExtentDiskModel" "ExtentDiskModel" "many" "[I" : Cond) ∈ ew_T := ew_mem 452 (by decide +kernel) (by decide +kernel)
theorem ew_454 : (.laysFinal "ExtentDiskModel" "ExtentDiskModel" "bytes" "[I" : Cond) ∈ ew_T := ew_mem 454 (by decide +kernel) (by decide +kernel)
theorem ew_456 : (.laysFinal "ExtentDiskModel" "ExtentDiskModel" "note" "[I" : Cond) ∈ ew_T := ew_mem 456 (by decide +kernel) (by decide +kernel)
theorem ew_458 : (.lays "ExtentDiskModel" "ExtentDiskModel" "changes" "I" : Cond) ∈ ew_T := ew_mem 458 (by decide +kernel) (by decide +kernel)
theorem ew_460 : (.laysFinal "ExtentDiskModel" "ExtentDiskModel" "disk" "[B" : Cond) ∈ ew_T := ew_mem 460 (by decide +kernel) (by decide +kernel)
theorem ew_462 : (.laysFinal "ExtentDiskModel" "ExtentDiskModel" "used" "[Z" : Cond) ∈ ew_T := ew_mem 462 (by decide +kernel) (by decide +kernel)
theorem ew_464 : (.laysFinal "ExtentDiskModel" "ExtentDiskModel" "wish" "[I" : Cond) ∈ ew_T := ew_mem 464 (by decide +kernel) (by decide +kernel)
theorem ew_466 : (.lays "ExtentDiskModel" "ExtentDiskModel" "taped" "I" : Cond) ∈ ew_T := ew_mem 466 (by decide +kernel) (by decide +kernel)
theorem ew_468 : (.laysFinal "ExtentDiskModel" "ExtentDiskModel" "tape" "[B" : Cond) ∈ ew_T := ew_mem 468 (by decide +kernel) (by decide +kernel)
theorem ew_475 : (.code ⟨"ExtentDiskModel", "thrown", "()I"⟩ prog_6_method_2_code 1 (some .int) : Cond) ∈ ew_T := ew_mem 475 rfl rfl
theorem ew_479 : (.code ⟨"ExtentDiskModel", "put", "(JI)I"⟩ prog_6_method_3_code 5 (some .int) : Cond) ∈ ew_T := ew_mem 479 rfl rfl
theorem ew_483 : (.code ⟨"ExtentDiskModel", "fill", "(II)I"⟩ prog_6_method_4_code 4 (some .int) : Cond) ∈ ew_T := ew_mem 483 rfl rfl
theorem ew_484 : (.constant "ExtentDiskModel" 57 100000 : Cond) ∈ ew_T := ew_mem 484 (by decide +kernel) (by decide +kernel)
theorem ew_488 : (.code ⟨"ExtentDiskModel", "drop", "()I"⟩ prog_6_method_5_code 2 (some .int) : Cond) ∈ ew_T := ew_mem 488 rfl rfl
theorem ew_492 : (.code ⟨"ExtentDiskModel", "wish", "(II)I"⟩ prog_6_method_6_code 4 (some .int) : Cond) ∈ ew_T := ew_mem 492 rfl rfl
theorem ew_496 : (.code ⟨"ExtentDiskModel", "note", "(I)I"⟩ prog_6_method_7_code 2 (some .int) : Cond) ∈ ew_T := ew_mem 496 rfl rfl
theorem ew_544 : (.code ⟨"ExtentDiskModel", "isDown", "()Z"⟩ prog_6_method_19_code 1 (some .boolean) : Cond) ∈ ew_T := ew_mem 544 rfl rfl
theorem ew_548 : (.code ⟨"ExtentDiskModel", "writes", "()I"⟩ prog_6_method_20_code 1 (some .int) : Cond) ∈ ew_T := ew_mem 548 rfl rfl
theorem in_M : ∀ w ∈ u_ws R_M T_M 6, w ∈ ew_T := List.forall_mem_cons.mpr ⟨ew_95, List.forall_mem_cons.mpr ⟨ew_97, List.forall_mem_cons.mpr ⟨ew_99, List.forall_mem_cons.mpr ⟨ew_101, List.forall_mem_cons.mpr ⟨ew_103, List.forall_mem_cons.mpr ⟨ew_105, fun _ h => absurd h List.not_mem_nil⟩⟩⟩⟩⟩⟩
theorem in_P : ∀ w ∈ u_ws R_P T_P 4, w ∈ ew_T := List.forall_mem_cons.mpr ⟨ew_52, List.forall_mem_cons.mpr ⟨ew_54, List.forall_mem_cons.mpr ⟨ew_56, List.forall_mem_cons.mpr ⟨ew_58, fun _ h => absurd h List.not_mem_nil⟩⟩⟩⟩
theorem in_Tp : ∀ w ∈ u_ws R_Tp T_Tp 2, w ∈ ew_T := List.forall_mem_cons.mpr ⟨ew_72, List.forall_mem_cons.mpr ⟨ew_74, fun _ h => absurd h List.not_mem_nil⟩⟩
theorem in_D : ∀ w ∈ u_ws R_D T_D 7, w ∈ ew_T := List.forall_mem_cons.mpr ⟨ew_116, List.forall_mem_cons.mpr ⟨ew_118, List.forall_mem_cons.mpr ⟨ew_120, List.forall_mem_cons.mpr ⟨ew_122, List.forall_mem_cons.mpr ⟨ew_124, List.forall_mem_cons.mpr ⟨ew_126, List.forall_mem_cons.mpr ⟨ew_128, fun _ h => absurd h List.not_mem_nil⟩⟩⟩⟩⟩⟩⟩
theorem in_K : ∀ w ∈ u_ws R_K T_K 17, w ∈ ew_T := List.forall_mem_cons.mpr ⟨ew_436, List.forall_mem_cons.mpr ⟨ew_438, List.forall_mem_cons.mpr ⟨ew_440, List.forall_mem_cons.mpr ⟨ew_442, List.forall_mem_cons.mpr ⟨ew_444, List.forall_mem_cons.mpr ⟨ew_446, List.forall_mem_cons.mpr ⟨ew_448, List.forall_mem_cons.mpr ⟨ew_450, List.forall_mem_cons.mpr ⟨ew_452, List.forall_mem_cons.mpr ⟨ew_454, List.forall_mem_cons.mpr ⟨ew_456, List.forall_mem_cons.mpr ⟨ew_458, List.forall_mem_cons.mpr ⟨ew_460, List.forall_mem_cons.mpr ⟨ew_462, List.forall_mem_cons.mpr ⟨ew_464, List.forall_mem_cons.mpr ⟨ew_466, List.forall_mem_cons.mpr ⟨ew_468, fun _ h => absurd h List.not_mem_nil⟩⟩⟩⟩⟩⟩⟩⟩⟩⟩⟩⟩⟩⟩⟩⟩⟩
theorem ew_good {w : Cond} (h : w ∈ ew_T) : GoodIn ew_T (w :: ew_T) := fun v hv => by
  rcases List.mem_cons.mp hv with e | e
  · subst e; exact ⟨h, good_of_word (List.mem_filter.mp h).2⟩
  · exact ⟨e, good_of_word (List.mem_filter.mp e).2⟩
theorem ew_1 {w : Cond} (h : w ∈ ew_T) : w ∈ ew_T ∧ ((w.onTables && w.keeps) = true ∨ ∃ ty, w = .arrayClass ty) := ⟨h, good_of_word (List.mem_filter.mp h).2⟩
theorem ew_V {own C : String} {idx : Nat} {y : MethodName} {ws : List Cond} (h1 : Cond.methodLink own idx y ∈ ew_T) (h2 : Cond.instanceMethod y ∈ ew_T) (h3 : Cond.selects C y y ∈ ew_T) (h4 : Cond.initialized C ∈ ew_T) (h : GoodIn ew_T ws) : GoodIn ew_T (wsV own idx C y ws) := fun w hw => by
  rcases List.mem_append.mp hw with q | q
  · rcases List.mem_cons.mp q with e | q
    · subst e; exact ew_1 h1
    · rcases List.mem_cons.mp q with e | q
      · subst e; exact ew_1 h2
      · rcases List.mem_cons.mp q with e | q
        · subst e; exact ew_1 h3
        · rcases List.mem_cons.mp q with e | q
          · subst e; exact ew_1 h4
          · exact absurd q List.not_mem_nil
  · exact h w q
theorem ew_S {own : String} {idx : Nat} {y : MethodName} {ws : List Cond} (h1 : Cond.methodLink own idx y ∈ ew_T) (h2 : Cond.static y ∈ ew_T) (h3 : Cond.initialized y.cls ∈ ew_T) (h : GoodIn ew_T ws) : GoodIn ew_T (va_wsS own idx y ws) := fun w hw => by
  rcases List.mem_append.mp hw with q | q
  · rcases List.mem_cons.mp q with e | q
    · subst e; exact ew_1 h1
    · rcases List.mem_cons.mp q with e | q
      · subst e; exact ew_1 h2
      · rcases List.mem_cons.mp q with e | q
        · subst e; exact ew_1 h3
        · exact absurd q List.not_mem_nil
  · exact h w q
abbrev b_P_limitPower : ByteArray := prog_3_method_2_code
def y_P_limitPower : MethodName := ⟨R_P, "limitPower", "(I)V"⟩
abbrev w_P_limitPower : List Cond := .code y_P_limitPower b_P_limitPower 2 none :: ew_T
theorem g_P_limitPower : GoodIn ew_T w_P_limitPower := ew_good ew_138
theorem d_P_limitPower_0 : decode b_P_limitPower 0 = .ok (.aload_n 0, 1) := by decide +kernel
theorem d_P_limitPower_1 : decode b_P_limitPower 1 = .ok (.iload_n 1, 1) := by decide +kernel
theorem d_P_limitPower_2 : decode b_P_limitPower 2 = .ok (.putfield 15, 3) := by decide +kernel
theorem d_P_limitPower_5 : decode b_P_limitPower 5 = .ok (.aload_n 0, 1) := by decide +kernel
theorem d_P_limitPower_6 : decode b_P_limitPower 6 = .ok (.iload_n 1, 1) := by decide +kernel
theorem d_P_limitPower_7 : decode b_P_limitPower 7 = .ok (.ifCond .ne 7, 3) := by decide +kernel
theorem d_P_limitPower_10 : decode b_P_limitPower 10 = .ok (.iconst 1, 1) := by decide +kernel
theorem d_P_limitPower_11 : decode b_P_limitPower 11 = .ok (.goto 4, 3) := by decide +kernel
theorem d_P_limitPower_14 : decode b_P_limitPower 14 = .ok (.iconst 0, 1) := by decide +kernel
theorem d_P_limitPower_15 : decode b_P_limitPower 15 = .ok (.putfield 19, 3) := by decide +kernel
theorem d_P_limitPower_18 : decode b_P_limitPower 18 = .ok (.return_, 1) := by decide +kernel
abbrev b_P_read : ByteArray := prog_3_method_4_code
def y_P_read : MethodName := ⟨R_P, "read", "(I)I"⟩
abbrev w_P_read : List Cond := .code y_P_read b_P_read 2 (some .int) :: ew_T
theorem g_P_read : GoodIn ew_T w_P_read := ew_good ew_157
theorem d_P_read_0 : decode b_P_read 0 = .ok (.iload_n 1, 1) := by decide +kernel
theorem d_P_read_1 : decode b_P_read 1 = .ok (.ifCond .lt 25, 3) := by decide +kernel
theorem d_P_read_4 : decode b_P_read 4 = .ok (.iload_n 1, 1) := by decide +kernel
theorem d_P_read_5 : decode b_P_read 5 = .ok (.aload_n 0, 1) := by decide +kernel
theorem d_P_read_6 : decode b_P_read 6 = .ok (.getfield 9, 3) := by decide +kernel
theorem d_P_read_9 : decode b_P_read 9 = .ok (.arraylength, 1) := by decide +kernel
theorem d_P_read_10 : decode b_P_read 10 = .ok (.if_icmp .ge 16, 3) := by decide +kernel
theorem d_P_read_13 : decode b_P_read 13 = .ok (.aload_n 0, 1) := by decide +kernel
theorem d_P_read_14 : decode b_P_read 14 = .ok (.getfield 9, 3) := by decide +kernel
theorem d_P_read_17 : decode b_P_read 17 = .ok (.iload_n 1, 1) := by decide +kernel
theorem d_P_read_18 : decode b_P_read 18 = .ok (.baload, 1) := by decide +kernel
theorem d_P_read_19 : decode b_P_read 19 = .ok (.sipush 255, 3) := by decide +kernel
theorem d_P_read_22 : decode b_P_read 22 = .ok (.iand, 1) := by decide +kernel
theorem d_P_read_23 : decode b_P_read 23 = .ok (.goto 4, 3) := by decide +kernel
theorem d_P_read_26 : decode b_P_read 26 = .ok (.iconst 0, 1) := by decide +kernel
theorem d_P_read_27 : decode b_P_read 27 = .ok (.ireturn, 1) := by decide +kernel
abbrev b_P_readInt : ByteArray := prog_3_method_5_code
def y_P_readInt : MethodName := ⟨R_P, "readInt", "(I)I"⟩
abbrev w_P_readInt : List Cond := .code y_P_readInt b_P_readInt 2 (some .int) :: ew_T
theorem g_P_readInt : GoodIn ew_T w_P_readInt := ew_good ew_153
theorem d_P_readInt_0 : decode b_P_readInt 0 = .ok (.aload_n 0, 1) := by decide +kernel
theorem d_P_readInt_1 : decode b_P_readInt 1 = .ok (.iload_n 1, 1) := by decide +kernel
theorem d_P_readInt_2 : decode b_P_readInt 2 = .ok (.invokevirtual 36, 3) := by decide +kernel
theorem d_P_readInt_5 : decode b_P_readInt 5 = .ok (.bipush 24, 2) := by decide +kernel
theorem d_P_readInt_7 : decode b_P_readInt 7 = .ok (.ishl, 1) := by decide +kernel
theorem d_P_readInt_8 : decode b_P_readInt 8 = .ok (.aload_n 0, 1) := by decide +kernel
theorem d_P_readInt_9 : decode b_P_readInt 9 = .ok (.iload_n 1, 1) := by decide +kernel
theorem d_P_readInt_10 : decode b_P_readInt 10 = .ok (.iconst 1, 1) := by decide +kernel
theorem d_P_readInt_11 : decode b_P_readInt 11 = .ok (.iadd, 1) := by decide +kernel
theorem d_P_readInt_12 : decode b_P_readInt 12 = .ok (.invokevirtual 36, 3) := by decide +kernel
theorem d_P_readInt_15 : decode b_P_readInt 15 = .ok (.bipush 16, 2) := by decide +kernel
theorem d_P_readInt_17 : decode b_P_readInt 17 = .ok (.ishl, 1) := by decide +kernel
theorem d_P_readInt_18 : decode b_P_readInt 18 = .ok (.ior, 1) := by decide +kernel
theorem d_P_readInt_19 : decode b_P_readInt 19 = .ok (.aload_n 0, 1) := by decide +kernel
theorem d_P_readInt_20 : decode b_P_readInt 20 = .ok (.iload_n 1, 1) := by decide +kernel
theorem d_P_readInt_21 : decode b_P_readInt 21 = .ok (.iconst 2, 1) := by decide +kernel
theorem d_P_readInt_22 : decode b_P_readInt 22 = .ok (.iadd, 1) := by decide +kernel
theorem d_P_readInt_23 : decode b_P_readInt 23 = .ok (.invokevirtual 36, 3) := by decide +kernel
theorem d_P_readInt_26 : decode b_P_readInt 26 = .ok (.bipush 8, 2) := by decide +kernel
theorem d_P_readInt_28 : decode b_P_readInt 28 = .ok (.ishl, 1) := by decide +kernel
theorem d_P_readInt_29 : decode b_P_readInt 29 = .ok (.ior, 1) := by decide +kernel
theorem d_P_readInt_30 : decode b_P_readInt 30 = .ok (.aload_n 0, 1) := by decide +kernel
theorem d_P_readInt_31 : decode b_P_readInt 31 = .ok (.iload_n 1, 1) := by decide +kernel
theorem d_P_readInt_32 : decode b_P_readInt 32 = .ok (.iconst 3, 1) := by decide +kernel
theorem d_P_readInt_33 : decode b_P_readInt 33 = .ok (.iadd, 1) := by decide +kernel
theorem d_P_readInt_34 : decode b_P_readInt 34 = .ok (.invokevirtual 36, 3) := by decide +kernel
theorem d_P_readInt_37 : decode b_P_readInt 37 = .ok (.ior, 1) := by decide +kernel
theorem d_P_readInt_38 : decode b_P_readInt 38 = .ok (.ireturn, 1) := by decide +kernel
abbrev b_P_writeBlock : ByteArray := prog_3_method_3_code
def y_P_writeBlock : MethodName := ⟨R_P, "writeBlock", "(I[BI)Z"⟩
abbrev w_P_writeBlock : List Cond := .code y_P_writeBlock b_P_writeBlock 5 (some .boolean) :: ew_T
theorem g_P_writeBlock : GoodIn ew_T w_P_writeBlock := ew_good ew_348
theorem d_P_writeBlock_0 : decode b_P_writeBlock 0 = .ok (.iload_n 1, 1) := by decide +kernel
theorem d_P_writeBlock_1 : decode b_P_writeBlock 1 = .ok (.sipush 4096, 3) := by decide +kernel
theorem d_P_writeBlock_4 : decode b_P_writeBlock 4 = .ok (.imul, 1) := by decide +kernel
theorem d_P_writeBlock_5 : decode b_P_writeBlock 5 = .ok (.istore 4, 2) := by decide +kernel
theorem d_P_writeBlock_7 : decode b_P_writeBlock 7 = .ok (.aload_n 0, 1) := by decide +kernel
theorem d_P_writeBlock_8 : decode b_P_writeBlock 8 = .ok (.getfield 19, 3) := by decide +kernel
theorem d_P_writeBlock_11 : decode b_P_writeBlock 11 = .ok (.ifCond .ne 36, 3) := by decide +kernel
theorem d_P_writeBlock_14 : decode b_P_writeBlock 14 = .ok (.iload 4, 2) := by decide +kernel
theorem d_P_writeBlock_16 : decode b_P_writeBlock 16 = .ok (.ifCond .lt 31, 3) := by decide +kernel
theorem d_P_writeBlock_19 : decode b_P_writeBlock 19 = .ok (.iload 4, 2) := by decide +kernel
theorem d_P_writeBlock_21 : decode b_P_writeBlock 21 = .ok (.aload_n 0, 1) := by decide +kernel
theorem d_P_writeBlock_22 : decode b_P_writeBlock 22 = .ok (.getfield 9, 3) := by decide +kernel
theorem d_P_writeBlock_25 : decode b_P_writeBlock 25 = .ok (.arraylength, 1) := by decide +kernel
theorem d_P_writeBlock_26 : decode b_P_writeBlock 26 = .ok (.sipush 4096, 3) := by decide +kernel
theorem d_P_writeBlock_29 : decode b_P_writeBlock 29 = .ok (.isub, 1) := by decide +kernel
theorem d_P_writeBlock_30 : decode b_P_writeBlock 30 = .ok (.if_icmp .gt 17, 3) := by decide +kernel
theorem d_P_writeBlock_33 : decode b_P_writeBlock 33 = .ok (.iload_n 3, 1) := by decide +kernel
theorem d_P_writeBlock_34 : decode b_P_writeBlock 34 = .ok (.ifCond .lt 13, 3) := by decide +kernel
theorem d_P_writeBlock_37 : decode b_P_writeBlock 37 = .ok (.iload_n 3, 1) := by decide +kernel
theorem d_P_writeBlock_38 : decode b_P_writeBlock 38 = .ok (.aload_n 2, 1) := by decide +kernel
theorem d_P_writeBlock_39 : decode b_P_writeBlock 39 = .ok (.arraylength, 1) := by decide +kernel
theorem d_P_writeBlock_40 : decode b_P_writeBlock 40 = .ok (.sipush 4096, 3) := by decide +kernel
theorem d_P_writeBlock_43 : decode b_P_writeBlock 43 = .ok (.isub, 1) := by decide +kernel
theorem d_P_writeBlock_44 : decode b_P_writeBlock 44 = .ok (.if_icmp .le 5, 3) := by decide +kernel
theorem d_P_writeBlock_47 : decode b_P_writeBlock 47 = .ok (.iconst 0, 1) := by decide +kernel
theorem d_P_writeBlock_48 : decode b_P_writeBlock 48 = .ok (.ireturn, 1) := by decide +kernel
theorem d_P_writeBlock_49 : decode b_P_writeBlock 49 = .ok (.aload_n 2, 1) := by decide +kernel
theorem d_P_writeBlock_50 : decode b_P_writeBlock 50 = .ok (.iload_n 3, 1) := by decide +kernel
theorem d_P_writeBlock_51 : decode b_P_writeBlock 51 = .ok (.aload_n 0, 1) := by decide +kernel
theorem d_P_writeBlock_52 : decode b_P_writeBlock 52 = .ok (.getfield 9, 3) := by decide +kernel
theorem d_P_writeBlock_55 : decode b_P_writeBlock 55 = .ok (.iload 4, 2) := by decide +kernel
theorem d_P_writeBlock_57 : decode b_P_writeBlock 57 = .ok (.sipush 4096, 3) := by decide +kernel
theorem d_P_writeBlock_60 : decode b_P_writeBlock 60 = .ok (.invokestatic 23, 3) := by decide +kernel
theorem d_P_writeBlock_63 : decode b_P_writeBlock 63 = .ok (.aload_n 0, 1) := by decide +kernel
theorem d_P_writeBlock_64 : decode b_P_writeBlock 64 = .ok (.dup, 1) := by decide +kernel
theorem d_P_writeBlock_65 : decode b_P_writeBlock 65 = .ok (.getfield 29, 3) := by decide +kernel
theorem d_P_writeBlock_68 : decode b_P_writeBlock 68 = .ok (.iconst 1, 1) := by decide +kernel
theorem d_P_writeBlock_69 : decode b_P_writeBlock 69 = .ok (.iadd, 1) := by decide +kernel
theorem d_P_writeBlock_70 : decode b_P_writeBlock 70 = .ok (.putfield 29, 3) := by decide +kernel
theorem d_P_writeBlock_73 : decode b_P_writeBlock 73 = .ok (.aload_n 0, 1) := by decide +kernel
theorem d_P_writeBlock_74 : decode b_P_writeBlock 74 = .ok (.getfield 15, 3) := by decide +kernel
theorem d_P_writeBlock_77 : decode b_P_writeBlock 77 = .ok (.ifCond .le 13, 3) := by decide +kernel
theorem d_P_writeBlock_80 : decode b_P_writeBlock 80 = .ok (.aload_n 0, 1) := by decide +kernel
theorem d_P_writeBlock_81 : decode b_P_writeBlock 81 = .ok (.aload_n 0, 1) := by decide +kernel
theorem d_P_writeBlock_82 : decode b_P_writeBlock 82 = .ok (.getfield 15, 3) := by decide +kernel
theorem d_P_writeBlock_85 : decode b_P_writeBlock 85 = .ok (.iconst 1, 1) := by decide +kernel
theorem d_P_writeBlock_86 : decode b_P_writeBlock 86 = .ok (.isub, 1) := by decide +kernel
theorem d_P_writeBlock_87 : decode b_P_writeBlock 87 = .ok (.invokevirtual 32, 3) := by decide +kernel
theorem d_P_writeBlock_90 : decode b_P_writeBlock 90 = .ok (.aload_n 0, 1) := by decide +kernel
theorem d_P_writeBlock_91 : decode b_P_writeBlock 91 = .ok (.getfield 19, 3) := by decide +kernel
theorem d_P_writeBlock_94 : decode b_P_writeBlock 94 = .ok (.ifCond .ne 7, 3) := by decide +kernel
theorem d_P_writeBlock_97 : decode b_P_writeBlock 97 = .ok (.iconst 1, 1) := by decide +kernel
theorem d_P_writeBlock_98 : decode b_P_writeBlock 98 = .ok (.goto 4, 3) := by decide +kernel
theorem d_P_writeBlock_101 : decode b_P_writeBlock 101 = .ok (.iconst 0, 1) := by decide +kernel
theorem d_P_writeBlock_102 : decode b_P_writeBlock 102 = .ok (.ireturn, 1) := by decide +kernel
abbrev b_Tp_hasRoomFor : ByteArray := prog_4_method_2_code
def y_Tp_hasRoomFor : MethodName := ⟨R_Tp, "hasRoomFor", "(I)Z"⟩
abbrev w_Tp_hasRoomFor : List Cond := .code y_Tp_hasRoomFor b_Tp_hasRoomFor 2 (some .boolean) :: ew_T
theorem g_Tp_hasRoomFor : GoodIn ew_T w_Tp_hasRoomFor := ew_good ew_259
theorem d_Tp_hasRoomFor_0 : decode b_Tp_hasRoomFor 0 = .ok (.iload_n 1, 1) := by decide +kernel
theorem d_Tp_hasRoomFor_1 : decode b_Tp_hasRoomFor 1 = .ok (.aload_n 0, 1) := by decide +kernel
theorem d_Tp_hasRoomFor_2 : decode b_Tp_hasRoomFor 2 = .ok (.getfield 9, 3) := by decide +kernel
theorem d_Tp_hasRoomFor_5 : decode b_Tp_hasRoomFor 5 = .ok (.arraylength, 1) := by decide +kernel
theorem d_Tp_hasRoomFor_6 : decode b_Tp_hasRoomFor 6 = .ok (.aload_n 0, 1) := by decide +kernel
theorem d_Tp_hasRoomFor_7 : decode b_Tp_hasRoomFor 7 = .ok (.getfield 15, 3) := by decide +kernel
theorem d_Tp_hasRoomFor_10 : decode b_Tp_hasRoomFor 10 = .ok (.isub, 1) := by decide +kernel
theorem d_Tp_hasRoomFor_11 : decode b_Tp_hasRoomFor 11 = .ok (.if_icmp .gt 7, 3) := by decide +kernel
theorem d_Tp_hasRoomFor_14 : decode b_Tp_hasRoomFor 14 = .ok (.iconst 1, 1) := by decide +kernel
theorem d_Tp_hasRoomFor_15 : decode b_Tp_hasRoomFor 15 = .ok (.goto 4, 3) := by decide +kernel
theorem d_Tp_hasRoomFor_18 : decode b_Tp_hasRoomFor 18 = .ok (.iconst 0, 1) := by decide +kernel
theorem d_Tp_hasRoomFor_19 : decode b_Tp_hasRoomFor 19 = .ok (.ireturn, 1) := by decide +kernel
abbrev b_Tp_append : ByteArray := prog_4_method_3_code
def y_Tp_append : MethodName := ⟨R_Tp, "append", "(B)V"⟩
abbrev w_Tp_append : List Cond := .code y_Tp_append b_Tp_append 2 none :: ew_T
theorem g_Tp_append : GoodIn ew_T w_Tp_append := ew_good ew_279
theorem d_Tp_append_0 : decode b_Tp_append 0 = .ok (.aload_n 0, 1) := by decide +kernel
theorem d_Tp_append_1 : decode b_Tp_append 1 = .ok (.getfield 15, 3) := by decide +kernel
theorem d_Tp_append_4 : decode b_Tp_append 4 = .ok (.ifCond .lt 35, 3) := by decide +kernel
theorem d_Tp_append_7 : decode b_Tp_append 7 = .ok (.aload_n 0, 1) := by decide +kernel
theorem d_Tp_append_8 : decode b_Tp_append 8 = .ok (.getfield 15, 3) := by decide +kernel
theorem d_Tp_append_11 : decode b_Tp_append 11 = .ok (.aload_n 0, 1) := by decide +kernel
theorem d_Tp_append_12 : decode b_Tp_append 12 = .ok (.getfield 9, 3) := by decide +kernel
theorem d_Tp_append_15 : decode b_Tp_append 15 = .ok (.arraylength, 1) := by decide +kernel
theorem d_Tp_append_16 : decode b_Tp_append 16 = .ok (.if_icmp .ge 23, 3) := by decide +kernel
theorem d_Tp_append_19 : decode b_Tp_append 19 = .ok (.aload_n 0, 1) := by decide +kernel
theorem d_Tp_append_20 : decode b_Tp_append 20 = .ok (.getfield 9, 3) := by decide +kernel
theorem d_Tp_append_23 : decode b_Tp_append 23 = .ok (.aload_n 0, 1) := by decide +kernel
theorem d_Tp_append_24 : decode b_Tp_append 24 = .ok (.getfield 15, 3) := by decide +kernel
theorem d_Tp_append_27 : decode b_Tp_append 27 = .ok (.iload_n 1, 1) := by decide +kernel
theorem d_Tp_append_28 : decode b_Tp_append 28 = .ok (.bastore, 1) := by decide +kernel
theorem d_Tp_append_29 : decode b_Tp_append 29 = .ok (.aload_n 0, 1) := by decide +kernel
theorem d_Tp_append_30 : decode b_Tp_append 30 = .ok (.dup, 1) := by decide +kernel
theorem d_Tp_append_31 : decode b_Tp_append 31 = .ok (.getfield 15, 3) := by decide +kernel
theorem d_Tp_append_34 : decode b_Tp_append 34 = .ok (.iconst 1, 1) := by decide +kernel
theorem d_Tp_append_35 : decode b_Tp_append 35 = .ok (.iadd, 1) := by decide +kernel
theorem d_Tp_append_36 : decode b_Tp_append 36 = .ok (.putfield 15, 3) := by decide +kernel
theorem d_Tp_append_39 : decode b_Tp_append 39 = .ok (.return_, 1) := by decide +kernel
abbrev b_M_holds : ByteArray := prog_2_method_2_code
def y_M_holds : MethodName := ⟨R_M, "holds", "(I)Z"⟩
abbrev w_M_holds : List Cond := .code y_M_holds b_M_holds 2 (some .boolean) :: ew_T
theorem g_M_holds : GoodIn ew_T w_M_holds := ew_good ew_374
theorem d_M_holds_0 : decode b_M_holds 0 = .ok (.iload_n 1, 1) := by decide +kernel
theorem d_M_holds_1 : decode b_M_holds 1 = .ok (.ifCond .lt 22, 3) := by decide +kernel
theorem d_M_holds_4 : decode b_M_holds 4 = .ok (.iload_n 1, 1) := by decide +kernel
theorem d_M_holds_5 : decode b_M_holds 5 = .ok (.aload_n 0, 1) := by decide +kernel
theorem d_M_holds_6 : decode b_M_holds 6 = .ok (.getfield 24, 3) := by decide +kernel
theorem d_M_holds_9 : decode b_M_holds 9 = .ok (.if_icmp .ge 14, 3) := by decide +kernel
theorem d_M_holds_12 : decode b_M_holds 12 = .ok (.iload_n 1, 1) := by decide +kernel
theorem d_M_holds_13 : decode b_M_holds 13 = .ok (.sipush 200, 3) := by decide +kernel
theorem d_M_holds_16 : decode b_M_holds 16 = .ok (.if_icmp .ge 7, 3) := by decide +kernel
theorem d_M_holds_19 : decode b_M_holds 19 = .ok (.iconst 1, 1) := by decide +kernel
theorem d_M_holds_20 : decode b_M_holds 20 = .ok (.goto 4, 3) := by decide +kernel
theorem d_M_holds_23 : decode b_M_holds 23 = .ok (.iconst 0, 1) := by decide +kernel
theorem d_M_holds_24 : decode b_M_holds 24 = .ok (.ireturn, 1) := by decide +kernel
abbrev b_M_add : ByteArray := prog_2_method_4_code
def y_M_add : MethodName := ⟨R_M, "add", "(III)Z"⟩
abbrev w_M_add : List Cond := .code y_M_add b_M_add 4 (some .boolean) :: ew_T
theorem g_M_add : GoodIn ew_T w_M_add := ew_good ew_162
theorem d_M_add_0 : decode b_M_add 0 = .ok (.aload_n 0, 1) := by decide +kernel
theorem d_M_add_1 : decode b_M_add 1 = .ok (.getfield 24, 3) := by decide +kernel
theorem d_M_add_4 : decode b_M_add 4 = .ok (.ifCond .lt 13, 3) := by decide +kernel
theorem d_M_add_7 : decode b_M_add 7 = .ok (.aload_n 0, 1) := by decide +kernel
theorem d_M_add_8 : decode b_M_add 8 = .ok (.getfield 24, 3) := by decide +kernel
theorem d_M_add_11 : decode b_M_add 11 = .ok (.sipush 200, 3) := by decide +kernel
theorem d_M_add_14 : decode b_M_add 14 = .ok (.if_icmp .lt 5, 3) := by decide +kernel
theorem d_M_add_17 : decode b_M_add 17 = .ok (.iconst 0, 1) := by decide +kernel
theorem d_M_add_18 : decode b_M_add 18 = .ok (.ireturn, 1) := by decide +kernel
theorem d_M_add_19 : decode b_M_add 19 = .ok (.aload_n 0, 1) := by decide +kernel
theorem d_M_add_20 : decode b_M_add 20 = .ok (.getfield 11, 3) := by decide +kernel
theorem d_M_add_23 : decode b_M_add 23 = .ok (.aload_n 0, 1) := by decide +kernel
theorem d_M_add_24 : decode b_M_add 24 = .ok (.getfield 24, 3) := by decide +kernel
theorem d_M_add_27 : decode b_M_add 27 = .ok (.iload_n 1, 1) := by decide +kernel
theorem d_M_add_28 : decode b_M_add 28 = .ok (.iastore, 1) := by decide +kernel
theorem d_M_add_29 : decode b_M_add 29 = .ok (.aload_n 0, 1) := by decide +kernel
theorem d_M_add_30 : decode b_M_add 30 = .ok (.getfield 15, 3) := by decide +kernel
theorem d_M_add_33 : decode b_M_add 33 = .ok (.aload_n 0, 1) := by decide +kernel
theorem d_M_add_34 : decode b_M_add 34 = .ok (.getfield 24, 3) := by decide +kernel
theorem d_M_add_37 : decode b_M_add 37 = .ok (.iload_n 2, 1) := by decide +kernel
theorem d_M_add_38 : decode b_M_add 38 = .ok (.iastore, 1) := by decide +kernel
theorem d_M_add_39 : decode b_M_add 39 = .ok (.aload_n 0, 1) := by decide +kernel
theorem d_M_add_40 : decode b_M_add 40 = .ok (.getfield 18, 3) := by decide +kernel
theorem d_M_add_43 : decode b_M_add 43 = .ok (.aload_n 0, 1) := by decide +kernel
theorem d_M_add_44 : decode b_M_add 44 = .ok (.getfield 24, 3) := by decide +kernel
theorem d_M_add_47 : decode b_M_add 47 = .ok (.iload_n 3, 1) := by decide +kernel
theorem d_M_add_48 : decode b_M_add 48 = .ok (.iastore, 1) := by decide +kernel
theorem d_M_add_49 : decode b_M_add 49 = .ok (.aload_n 0, 1) := by decide +kernel
theorem d_M_add_50 : decode b_M_add 50 = .ok (.dup, 1) := by decide +kernel
theorem d_M_add_51 : decode b_M_add 51 = .ok (.getfield 24, 3) := by decide +kernel
theorem d_M_add_54 : decode b_M_add 54 = .ok (.iconst 1, 1) := by decide +kernel
theorem d_M_add_55 : decode b_M_add 55 = .ok (.iadd, 1) := by decide +kernel
theorem d_M_add_56 : decode b_M_add 56 = .ok (.putfield 24, 3) := by decide +kernel
theorem d_M_add_59 : decode b_M_add 59 = .ok (.iconst 1, 1) := by decide +kernel
theorem d_M_add_60 : decode b_M_add 60 = .ok (.ireturn, 1) := by decide +kernel
abbrev b_A_fill : ByteArray := prog_15_method_103_code
def y_A_fill : MethodName := ⟨R_A, "fill", "([II)V"⟩
abbrev w_A_fill : List Cond := .code y_A_fill b_A_fill 4 none :: ew_T
theorem g_A_fill : GoodIn ew_T w_A_fill := ew_good ew_149
theorem d_A_fill_0 : decode b_A_fill 0 = .ok (.iconst 0, 1) := by decide +kernel
theorem d_A_fill_1 : decode b_A_fill 1 = .ok (.istore_n 2, 1) := by decide +kernel
theorem d_A_fill_2 : decode b_A_fill 2 = .ok (.aload_n 0, 1) := by decide +kernel
theorem d_A_fill_3 : decode b_A_fill 3 = .ok (.arraylength, 1) := by decide +kernel
theorem d_A_fill_4 : decode b_A_fill 4 = .ok (.istore_n 3, 1) := by decide +kernel
theorem d_A_fill_5 : decode b_A_fill 5 = .ok (.iload_n 2, 1) := by decide +kernel
theorem d_A_fill_6 : decode b_A_fill 6 = .ok (.iload_n 3, 1) := by decide +kernel
theorem d_A_fill_7 : decode b_A_fill 7 = .ok (.if_icmp .ge 13, 3) := by decide +kernel
theorem d_A_fill_10 : decode b_A_fill 10 = .ok (.aload_n 0, 1) := by decide +kernel
theorem d_A_fill_11 : decode b_A_fill 11 = .ok (.iload_n 2, 1) := by decide +kernel
theorem d_A_fill_12 : decode b_A_fill 12 = .ok (.iload_n 1, 1) := by decide +kernel
theorem d_A_fill_13 : decode b_A_fill 13 = .ok (.iastore, 1) := by decide +kernel
theorem d_A_fill_14 : decode b_A_fill 14 = .ok (.iinc 2 1, 3) := by decide +kernel
theorem d_A_fill_17 : decode b_A_fill 17 = .ok (.goto (-12), 3) := by decide +kernel
theorem d_A_fill_20 : decode b_A_fill 20 = .ok (.return_, 1) := by decide +kernel
abbrev b_M_clear : ByteArray := prog_2_method_3_code
def y_M_clear : MethodName := ⟨R_M, "clear", "()V"⟩
abbrev w_M_clear : List Cond := .code y_M_clear b_M_clear 1 none :: ew_T
theorem g_M_clear : GoodIn ew_T w_M_clear := ew_good ew_146
theorem d_M_clear_0 : decode b_M_clear 0 = .ok (.aload_n 0, 1) := by decide +kernel
theorem d_M_clear_1 : decode b_M_clear 1 = .ok (.iconst 0, 1) := by decide +kernel
theorem d_M_clear_2 : decode b_M_clear 2 = .ok (.putfield 24, 3) := by decide +kernel
theorem d_M_clear_5 : decode b_M_clear 5 = .ok (.aload_n 0, 1) := by decide +kernel
theorem d_M_clear_6 : decode b_M_clear 6 = .ok (.iconst 0, 1) := by decide +kernel
theorem d_M_clear_7 : decode b_M_clear 7 = .ok (.putfield 28, 3) := by decide +kernel
theorem d_M_clear_10 : decode b_M_clear 10 = .ok (.aload_n 0, 1) := by decide +kernel
theorem d_M_clear_11 : decode b_M_clear 11 = .ok (.getfield 21, 3) := by decide +kernel
theorem d_M_clear_14 : decode b_M_clear 14 = .ok (.iconst 0, 1) := by decide +kernel
theorem d_M_clear_15 : decode b_M_clear 15 = .ok (.invokestatic 31, 3) := by decide +kernel
theorem d_M_clear_18 : decode b_M_clear 18 = .ok (.return_, 1) := by decide +kernel
abbrev b_M_takeNotes : ByteArray := prog_2_method_6_code
def y_M_takeNotes : MethodName := ⟨R_M, "takeNotes", "([I)V"⟩
abbrev w_M_takeNotes : List Cond := .code y_M_takeNotes b_M_takeNotes 3 none :: ew_T
theorem g_M_takeNotes : GoodIn ew_T w_M_takeNotes := ew_good ew_326
theorem d_M_takeNotes_0 : decode b_M_takeNotes 0 = .ok (.iconst 0, 1) := by decide +kernel
theorem d_M_takeNotes_1 : decode b_M_takeNotes 1 = .ok (.istore_n 2, 1) := by decide +kernel
theorem d_M_takeNotes_2 : decode b_M_takeNotes 2 = .ok (.iload_n 2, 1) := by decide +kernel
theorem d_M_takeNotes_3 : decode b_M_takeNotes 3 = .ok (.bipush 24, 2) := by decide +kernel
theorem d_M_takeNotes_5 : decode b_M_takeNotes 5 = .ok (.if_icmp .ge 24, 3) := by decide +kernel
theorem d_M_takeNotes_8 : decode b_M_takeNotes 8 = .ok (.iload_n 2, 1) := by decide +kernel
theorem d_M_takeNotes_9 : decode b_M_takeNotes 9 = .ok (.aload_n 1, 1) := by decide +kernel
theorem d_M_takeNotes_10 : decode b_M_takeNotes 10 = .ok (.arraylength, 1) := by decide +kernel
theorem d_M_takeNotes_11 : decode b_M_takeNotes 11 = .ok (.if_icmp .ge 18, 3) := by decide +kernel
theorem d_M_takeNotes_14 : decode b_M_takeNotes 14 = .ok (.aload_n 0, 1) := by decide +kernel
theorem d_M_takeNotes_15 : decode b_M_takeNotes 15 = .ok (.getfield 21, 3) := by decide +kernel
theorem d_M_takeNotes_18 : decode b_M_takeNotes 18 = .ok (.iload_n 2, 1) := by decide +kernel
theorem d_M_takeNotes_19 : decode b_M_takeNotes 19 = .ok (.aload_n 1, 1) := by decide +kernel
theorem d_M_takeNotes_20 : decode b_M_takeNotes 20 = .ok (.iload_n 2, 1) := by decide +kernel
theorem d_M_takeNotes_21 : decode b_M_takeNotes 21 = .ok (.iaload, 1) := by decide +kernel
theorem d_M_takeNotes_22 : decode b_M_takeNotes 22 = .ok (.iastore, 1) := by decide +kernel
theorem d_M_takeNotes_23 : decode b_M_takeNotes 23 = .ok (.iinc 2 1, 3) := by decide +kernel
theorem d_M_takeNotes_26 : decode b_M_takeNotes 26 = .ok (.goto (-24), 3) := by decide +kernel
theorem d_M_takeNotes_29 : decode b_M_takeNotes 29 = .ok (.return_, 1) := by decide +kernel
abbrev b_M_follow : ByteArray := prog_2_method_5_code
def y_M_follow : MethodName := ⟨R_M, "follow", "(LExtentDisk$Manifest;II)V"⟩
abbrev w_M_follow : List Cond := .code y_M_follow b_M_follow 6 none :: ew_T
theorem g_M_follow : GoodIn ew_T w_M_follow := ew_good ew_322
theorem d_M_follow_0 : decode b_M_follow 0 = .ok (.aload_n 0, 1) := by decide +kernel
theorem d_M_follow_1 : decode b_M_follow 1 = .ok (.invokevirtual 37, 3) := by decide +kernel
theorem d_M_follow_4 : decode b_M_follow 4 = .ok (.aload_n 0, 1) := by decide +kernel
theorem d_M_follow_5 : decode b_M_follow 5 = .ok (.aload_n 1, 1) := by decide +kernel
theorem d_M_follow_6 : decode b_M_follow 6 = .ok (.getfield 28, 3) := by decide +kernel
theorem d_M_follow_9 : decode b_M_follow 9 = .ok (.iconst 1, 1) := by decide +kernel
theorem d_M_follow_10 : decode b_M_follow 10 = .ok (.iadd, 1) := by decide +kernel
theorem d_M_follow_11 : decode b_M_follow 11 = .ok (.putfield 28, 3) := by decide +kernel
theorem d_M_follow_14 : decode b_M_follow 14 = .ok (.iconst 0, 1) := by decide +kernel
theorem d_M_follow_15 : decode b_M_follow 15 = .ok (.istore 4, 2) := by decide +kernel
theorem d_M_follow_17 : decode b_M_follow 17 = .ok (.iload 4, 2) := by decide +kernel
theorem d_M_follow_19 : decode b_M_follow 19 = .ok (.aload_n 1, 1) := by decide +kernel
theorem d_M_follow_20 : decode b_M_follow 20 = .ok (.getfield 24, 3) := by decide +kernel
theorem d_M_follow_23 : decode b_M_follow 23 = .ok (.if_icmp .ge 59, 3) := by decide +kernel
theorem d_M_follow_26 : decode b_M_follow 26 = .ok (.iload 4, 2) := by decide +kernel
theorem d_M_follow_28 : decode b_M_follow 28 = .ok (.sipush 200, 3) := by decide +kernel
theorem d_M_follow_31 : decode b_M_follow 31 = .ok (.if_icmp .ge 51, 3) := by decide +kernel
theorem d_M_follow_34 : decode b_M_follow 34 = .ok (.aload_n 1, 1) := by decide +kernel
theorem d_M_follow_35 : decode b_M_follow 35 = .ok (.getfield 11, 3) := by decide +kernel
theorem d_M_follow_38 : decode b_M_follow 38 = .ok (.iload 4, 2) := by decide +kernel
theorem d_M_follow_40 : decode b_M_follow 40 = .ok (.iaload, 1) := by decide +kernel
theorem d_M_follow_41 : decode b_M_follow 41 = .ok (.istore 5, 2) := by decide +kernel
theorem d_M_follow_43 : decode b_M_follow 43 = .ok (.iload 5, 2) := by decide +kernel
theorem d_M_follow_45 : decode b_M_follow 45 = .ok (.iload_n 2, 1) := by decide +kernel
theorem d_M_follow_46 : decode b_M_follow 46 = .ok (.if_icmp .lt 9, 3) := by decide +kernel
theorem d_M_follow_49 : decode b_M_follow 49 = .ok (.iload 5, 2) := by decide +kernel
theorem d_M_follow_51 : decode b_M_follow 51 = .ok (.iload_n 3, 1) := by decide +kernel
theorem d_M_follow_52 : decode b_M_follow 52 = .ok (.if_icmp .le 24, 3) := by decide +kernel
theorem d_M_follow_55 : decode b_M_follow 55 = .ok (.aload_n 0, 1) := by decide +kernel
theorem d_M_follow_56 : decode b_M_follow 56 = .ok (.iload 5, 2) := by decide +kernel
theorem d_M_follow_58 : decode b_M_follow 58 = .ok (.aload_n 1, 1) := by decide +kernel
theorem d_M_follow_59 : decode b_M_follow 59 = .ok (.getfield 15, 3) := by decide +kernel
theorem d_M_follow_62 : decode b_M_follow 62 = .ok (.iload 4, 2) := by decide +kernel
theorem d_M_follow_64 : decode b_M_follow 64 = .ok (.iaload, 1) := by decide +kernel
theorem d_M_follow_65 : decode b_M_follow 65 = .ok (.aload_n 1, 1) := by decide +kernel
theorem d_M_follow_66 : decode b_M_follow 66 = .ok (.getfield 18, 3) := by decide +kernel
theorem d_M_follow_69 : decode b_M_follow 69 = .ok (.iload 4, 2) := by decide +kernel
theorem d_M_follow_71 : decode b_M_follow 71 = .ok (.iaload, 1) := by decide +kernel
theorem d_M_follow_72 : decode b_M_follow 72 = .ok (.invokevirtual 40, 3) := by decide +kernel
theorem d_M_follow_75 : decode b_M_follow 75 = .ok (.pop, 1) := by decide +kernel
theorem d_M_follow_76 : decode b_M_follow 76 = .ok (.iinc 4 1, 3) := by decide +kernel
theorem d_M_follow_79 : decode b_M_follow 79 = .ok (.goto (-62), 3) := by decide +kernel
theorem d_M_follow_82 : decode b_M_follow 82 = .ok (.return_, 1) := by decide +kernel
abbrev b_D_blocksFor : ByteArray := prog_1_method_16_code
def y_D_blocksFor : MethodName := ⟨R_D, "blocksFor", "(I)I"⟩
abbrev w_D_blocksFor : List Cond := .code y_D_blocksFor b_D_blocksFor 1 (some .int) :: ew_T
theorem g_D_blocksFor : GoodIn ew_T w_D_blocksFor := ew_good ew_329
theorem d_D_blocksFor_0 : decode b_D_blocksFor 0 = .ok (.iload_n 0, 1) := by decide +kernel
theorem d_D_blocksFor_1 : decode b_D_blocksFor 1 = .ok (.sipush 4096, 3) := by decide +kernel
theorem d_D_blocksFor_4 : decode b_D_blocksFor 4 = .ok (.iadd, 1) := by decide +kernel
theorem d_D_blocksFor_5 : decode b_D_blocksFor 5 = .ok (.iconst 1, 1) := by decide +kernel
theorem d_D_blocksFor_6 : decode b_D_blocksFor 6 = .ok (.isub, 1) := by decide +kernel
theorem d_D_blocksFor_7 : decode b_D_blocksFor 7 = .ok (.sipush 4096, 3) := by decide +kernel
theorem d_D_blocksFor_10 : decode b_D_blocksFor 10 = .ok (.idiv, 1) := by decide +kernel
theorem d_D_blocksFor_11 : decode b_D_blocksFor 11 = .ok (.ireturn, 1) := by decide +kernel
abbrev b_M_countTenants : ByteArray := prog_2_method_7_code
def y_M_countTenants : MethodName := ⟨R_M, "countTenants", "([I)V"⟩
abbrev w_M_countTenants : List Cond := .code y_M_countTenants b_M_countTenants 5 none :: ew_T
theorem g_M_countTenants : GoodIn ew_T w_M_countTenants := ew_good ew_337
theorem d_M_countTenants_0 : decode b_M_countTenants 0 = .ok (.aload_n 1, 1) := by decide +kernel
theorem d_M_countTenants_1 : decode b_M_countTenants 1 = .ok (.iconst 0, 1) := by decide +kernel
theorem d_M_countTenants_2 : decode b_M_countTenants 2 = .ok (.invokestatic 31, 3) := by decide +kernel
theorem d_M_countTenants_5 : decode b_M_countTenants 5 = .ok (.iconst 0, 1) := by decide +kernel
theorem d_M_countTenants_6 : decode b_M_countTenants 6 = .ok (.istore_n 2, 1) := by decide +kernel
theorem d_M_countTenants_7 : decode b_M_countTenants 7 = .ok (.iload_n 2, 1) := by decide +kernel
theorem d_M_countTenants_8 : decode b_M_countTenants 8 = .ok (.aload_n 0, 1) := by decide +kernel
theorem d_M_countTenants_9 : decode b_M_countTenants 9 = .ok (.getfield 24, 3) := by decide +kernel
theorem d_M_countTenants_12 : decode b_M_countTenants 12 = .ok (.if_icmp .ge 72, 3) := by decide +kernel
theorem d_M_countTenants_15 : decode b_M_countTenants 15 = .ok (.iload_n 2, 1) := by decide +kernel
theorem d_M_countTenants_16 : decode b_M_countTenants 16 = .ok (.sipush 200, 3) := by decide +kernel
theorem d_M_countTenants_19 : decode b_M_countTenants 19 = .ok (.if_icmp .ge 65, 3) := by decide +kernel
theorem d_M_countTenants_22 : decode b_M_countTenants 22 = .ok (.aload_n 0, 1) := by decide +kernel
theorem d_M_countTenants_23 : decode b_M_countTenants 23 = .ok (.getfield 15, 3) := by decide +kernel
theorem d_M_countTenants_26 : decode b_M_countTenants 26 = .ok (.iload_n 2, 1) := by decide +kernel
theorem d_M_countTenants_27 : decode b_M_countTenants 27 = .ok (.iaload, 1) := by decide +kernel
theorem d_M_countTenants_28 : decode b_M_countTenants 28 = .ok (.aload_n 0, 1) := by decide +kernel
theorem d_M_countTenants_29 : decode b_M_countTenants 29 = .ok (.getfield 18, 3) := by decide +kernel
theorem d_M_countTenants_32 : decode b_M_countTenants 32 = .ok (.iload_n 2, 1) := by decide +kernel
theorem d_M_countTenants_33 : decode b_M_countTenants 33 = .ok (.iaload, 1) := by decide +kernel
theorem d_M_countTenants_34 : decode b_M_countTenants 34 = .ok (.invokestatic 44, 3) := by decide +kernel
theorem d_M_countTenants_37 : decode b_M_countTenants 37 = .ok (.iadd, 1) := by decide +kernel
theorem d_M_countTenants_38 : decode b_M_countTenants 38 = .ok (.istore_n 3, 1) := by decide +kernel
theorem d_M_countTenants_39 : decode b_M_countTenants 39 = .ok (.iconst 0, 1) := by decide +kernel
theorem d_M_countTenants_40 : decode b_M_countTenants 40 = .ok (.aload_n 0, 1) := by decide +kernel
theorem d_M_countTenants_41 : decode b_M_countTenants 41 = .ok (.getfield 15, 3) := by decide +kernel
theorem d_M_countTenants_44 : decode b_M_countTenants 44 = .ok (.iload_n 2, 1) := by decide +kernel
theorem d_M_countTenants_45 : decode b_M_countTenants 45 = .ok (.iaload, 1) := by decide +kernel
theorem d_M_countTenants_46 : decode b_M_countTenants 46 = .ok (.invokestatic 48, 3) := by decide +kernel
theorem d_M_countTenants_49 : decode b_M_countTenants 49 = .ok (.istore 4, 2) := by decide +kernel
theorem d_M_countTenants_51 : decode b_M_countTenants 51 = .ok (.iload 4, 2) := by decide +kernel
theorem d_M_countTenants_53 : decode b_M_countTenants 53 = .ok (.iload_n 3, 1) := by decide +kernel
theorem d_M_countTenants_54 : decode b_M_countTenants 54 = .ok (.if_icmp .ge 24, 3) := by decide +kernel
theorem d_M_countTenants_57 : decode b_M_countTenants 57 = .ok (.iload 4, 2) := by decide +kernel
theorem d_M_countTenants_59 : decode b_M_countTenants 59 = .ok (.aload_n 1, 1) := by decide +kernel
theorem d_M_countTenants_60 : decode b_M_countTenants 60 = .ok (.arraylength, 1) := by decide +kernel
theorem d_M_countTenants_61 : decode b_M_countTenants 61 = .ok (.if_icmp .ge 17, 3) := by decide +kernel
theorem d_M_countTenants_64 : decode b_M_countTenants 64 = .ok (.aload_n 1, 1) := by decide +kernel
theorem d_M_countTenants_65 : decode b_M_countTenants 65 = .ok (.iload 4, 2) := by decide +kernel
theorem d_M_countTenants_67 : decode b_M_countTenants 67 = .ok (.dup2, 1) := by decide +kernel
theorem d_M_countTenants_68 : decode b_M_countTenants 68 = .ok (.iaload, 1) := by decide +kernel
theorem d_M_countTenants_69 : decode b_M_countTenants 69 = .ok (.iconst 1, 1) := by decide +kernel
theorem d_M_countTenants_70 : decode b_M_countTenants 70 = .ok (.iadd, 1) := by decide +kernel
theorem d_M_countTenants_71 : decode b_M_countTenants 71 = .ok (.iastore, 1) := by decide +kernel
theorem d_M_countTenants_72 : decode b_M_countTenants 72 = .ok (.iinc 4 1, 3) := by decide +kernel
theorem d_M_countTenants_75 : decode b_M_countTenants 75 = .ok (.goto (-24), 3) := by decide +kernel
theorem d_M_countTenants_78 : decode b_M_countTenants 78 = .ok (.iinc 2 1, 3) := by decide +kernel
theorem d_M_countTenants_81 : decode b_M_countTenants 81 = .ok (.goto (-74), 3) := by decide +kernel
theorem d_M_countTenants_84 : decode b_M_countTenants 84 = .ok (.return_, 1) := by decide +kernel
abbrev b_M_storeInt : ByteArray := prog_2_method_10_code
def y_M_storeInt : MethodName := ⟨R_M, "storeInt", "([BII)V"⟩
abbrev w_M_storeInt : List Cond := .code y_M_storeInt b_M_storeInt 3 none :: ew_T
theorem g_M_storeInt : GoodIn ew_T w_M_storeInt := ew_good ew_363
theorem d_M_storeInt_0 : decode b_M_storeInt 0 = .ok (.iload_n 1, 1) := by decide +kernel
theorem d_M_storeInt_1 : decode b_M_storeInt 1 = .ok (.ifCond .lt 11, 3) := by decide +kernel
theorem d_M_storeInt_4 : decode b_M_storeInt 4 = .ok (.iload_n 1, 1) := by decide +kernel
theorem d_M_storeInt_5 : decode b_M_storeInt 5 = .ok (.aload_n 0, 1) := by decide +kernel
theorem d_M_storeInt_6 : decode b_M_storeInt 6 = .ok (.arraylength, 1) := by decide +kernel
theorem d_M_storeInt_7 : decode b_M_storeInt 7 = .ok (.iconst 4, 1) := by decide +kernel
theorem d_M_storeInt_8 : decode b_M_storeInt 8 = .ok (.isub, 1) := by decide +kernel
theorem d_M_storeInt_9 : decode b_M_storeInt 9 = .ok (.if_icmp .le 4, 3) := by decide +kernel
theorem d_M_storeInt_12 : decode b_M_storeInt 12 = .ok (.return_, 1) := by decide +kernel
theorem d_M_storeInt_13 : decode b_M_storeInt 13 = .ok (.aload_n 0, 1) := by decide +kernel
theorem d_M_storeInt_14 : decode b_M_storeInt 14 = .ok (.iload_n 1, 1) := by decide +kernel
theorem d_M_storeInt_15 : decode b_M_storeInt 15 = .ok (.iload_n 2, 1) := by decide +kernel
theorem d_M_storeInt_16 : decode b_M_storeInt 16 = .ok (.bipush 24, 2) := by decide +kernel
theorem d_M_storeInt_18 : decode b_M_storeInt 18 = .ok (.iushr, 1) := by decide +kernel
theorem d_M_storeInt_19 : decode b_M_storeInt 19 = .ok (.i2b, 1) := by decide +kernel
theorem d_M_storeInt_20 : decode b_M_storeInt 20 = .ok (.bastore, 1) := by decide +kernel
theorem d_M_storeInt_21 : decode b_M_storeInt 21 = .ok (.aload_n 0, 1) := by decide +kernel
theorem d_M_storeInt_22 : decode b_M_storeInt 22 = .ok (.iload_n 1, 1) := by decide +kernel
theorem d_M_storeInt_23 : decode b_M_storeInt 23 = .ok (.iconst 1, 1) := by decide +kernel
theorem d_M_storeInt_24 : decode b_M_storeInt 24 = .ok (.iadd, 1) := by decide +kernel
theorem d_M_storeInt_25 : decode b_M_storeInt 25 = .ok (.iload_n 2, 1) := by decide +kernel
theorem d_M_storeInt_26 : decode b_M_storeInt 26 = .ok (.bipush 16, 2) := by decide +kernel
theorem d_M_storeInt_28 : decode b_M_storeInt 28 = .ok (.iushr, 1) := by decide +kernel
theorem d_M_storeInt_29 : decode b_M_storeInt 29 = .ok (.i2b, 1) := by decide +kernel
theorem d_M_storeInt_30 : decode b_M_storeInt 30 = .ok (.bastore, 1) := by decide +kernel
theorem d_M_storeInt_31 : decode b_M_storeInt 31 = .ok (.aload_n 0, 1) := by decide +kernel
theorem d_M_storeInt_32 : decode b_M_storeInt 32 = .ok (.iload_n 1, 1) := by decide +kernel
theorem d_M_storeInt_33 : decode b_M_storeInt 33 = .ok (.iconst 2, 1) := by decide +kernel
theorem d_M_storeInt_34 : decode b_M_storeInt 34 = .ok (.iadd, 1) := by decide +kernel
theorem d_M_storeInt_35 : decode b_M_storeInt 35 = .ok (.iload_n 2, 1) := by decide +kernel
theorem d_M_storeInt_36 : decode b_M_storeInt 36 = .ok (.bipush 8, 2) := by decide +kernel
theorem d_M_storeInt_38 : decode b_M_storeInt 38 = .ok (.iushr, 1) := by decide +kernel
theorem d_M_storeInt_39 : decode b_M_storeInt 39 = .ok (.i2b, 1) := by decide +kernel
theorem d_M_storeInt_40 : decode b_M_storeInt 40 = .ok (.bastore, 1) := by decide +kernel
theorem d_M_storeInt_41 : decode b_M_storeInt 41 = .ok (.aload_n 0, 1) := by decide +kernel
theorem d_M_storeInt_42 : decode b_M_storeInt 42 = .ok (.iload_n 1, 1) := by decide +kernel
theorem d_M_storeInt_43 : decode b_M_storeInt 43 = .ok (.iconst 3, 1) := by decide +kernel
theorem d_M_storeInt_44 : decode b_M_storeInt 44 = .ok (.iadd, 1) := by decide +kernel
theorem d_M_storeInt_45 : decode b_M_storeInt 45 = .ok (.iload_n 2, 1) := by decide +kernel
theorem d_M_storeInt_46 : decode b_M_storeInt 46 = .ok (.i2b, 1) := by decide +kernel
theorem d_M_storeInt_47 : decode b_M_storeInt 47 = .ok (.bastore, 1) := by decide +kernel
theorem d_M_storeInt_48 : decode b_M_storeInt 48 = .ok (.return_, 1) := by decide +kernel
abbrev b_M_store : ByteArray := prog_2_method_8_code
def y_M_store : MethodName := ⟨R_M, "store", "([B)V"⟩
abbrev w_M_store : List Cond := .code y_M_store b_M_store 4 none :: ew_T
theorem g_M_store : GoodIn ew_T w_M_store := ew_good ew_360
theorem d_M_store_0 : decode b_M_store 0 = .ok (.aload_n 1, 1) := by decide +kernel
theorem d_M_store_1 : decode b_M_store 1 = .ok (.iconst 0, 1) := by decide +kernel
theorem d_M_store_2 : decode b_M_store 2 = .ok (.aload_n 0, 1) := by decide +kernel
theorem d_M_store_3 : decode b_M_store 3 = .ok (.getfield 28, 3) := by decide +kernel
theorem d_M_store_6 : decode b_M_store 6 = .ok (.invokestatic 54, 3) := by decide +kernel
theorem d_M_store_9 : decode b_M_store 9 = .ok (.aload_n 1, 1) := by decide +kernel
theorem d_M_store_10 : decode b_M_store 10 = .ok (.iconst 4, 1) := by decide +kernel
theorem d_M_store_11 : decode b_M_store 11 = .ok (.aload_n 0, 1) := by decide +kernel
theorem d_M_store_12 : decode b_M_store 12 = .ok (.getfield 24, 3) := by decide +kernel
theorem d_M_store_15 : decode b_M_store 15 = .ok (.invokestatic 54, 3) := by decide +kernel
theorem d_M_store_18 : decode b_M_store 18 = .ok (.iconst 0, 1) := by decide +kernel
theorem d_M_store_19 : decode b_M_store 19 = .ok (.istore_n 2, 1) := by decide +kernel
theorem d_M_store_20 : decode b_M_store 20 = .ok (.iload_n 2, 1) := by decide +kernel
theorem d_M_store_21 : decode b_M_store 21 = .ok (.bipush 24, 2) := by decide +kernel
theorem d_M_store_23 : decode b_M_store 23 = .ok (.if_icmp .ge 25, 3) := by decide +kernel
theorem d_M_store_26 : decode b_M_store 26 = .ok (.aload_n 1, 1) := by decide +kernel
theorem d_M_store_27 : decode b_M_store 27 = .ok (.bipush 8, 2) := by decide +kernel
theorem d_M_store_29 : decode b_M_store 29 = .ok (.iconst 4, 1) := by decide +kernel
theorem d_M_store_30 : decode b_M_store 30 = .ok (.iload_n 2, 1) := by decide +kernel
theorem d_M_store_31 : decode b_M_store 31 = .ok (.imul, 1) := by decide +kernel
theorem d_M_store_32 : decode b_M_store 32 = .ok (.iadd, 1) := by decide +kernel
theorem d_M_store_33 : decode b_M_store 33 = .ok (.aload_n 0, 1) := by decide +kernel
theorem d_M_store_34 : decode b_M_store 34 = .ok (.getfield 21, 3) := by decide +kernel
theorem d_M_store_37 : decode b_M_store 37 = .ok (.iload_n 2, 1) := by decide +kernel
theorem d_M_store_38 : decode b_M_store 38 = .ok (.iaload, 1) := by decide +kernel
theorem d_M_store_39 : decode b_M_store 39 = .ok (.invokestatic 54, 3) := by decide +kernel
theorem d_M_store_42 : decode b_M_store 42 = .ok (.iinc 2 1, 3) := by decide +kernel
theorem d_M_store_45 : decode b_M_store 45 = .ok (.goto (-25), 3) := by decide +kernel
theorem d_M_store_48 : decode b_M_store 48 = .ok (.iconst 0, 1) := by decide +kernel
theorem d_M_store_49 : decode b_M_store 49 = .ok (.istore_n 2, 1) := by decide +kernel
theorem d_M_store_50 : decode b_M_store 50 = .ok (.iload_n 2, 1) := by decide +kernel
theorem d_M_store_51 : decode b_M_store 51 = .ok (.aload_n 0, 1) := by decide +kernel
theorem d_M_store_52 : decode b_M_store 52 = .ok (.getfield 24, 3) := by decide +kernel
theorem d_M_store_55 : decode b_M_store 55 = .ok (.if_icmp .ge 62, 3) := by decide +kernel
theorem d_M_store_58 : decode b_M_store 58 = .ok (.iload_n 2, 1) := by decide +kernel
theorem d_M_store_59 : decode b_M_store 59 = .ok (.sipush 200, 3) := by decide +kernel
theorem d_M_store_62 : decode b_M_store 62 = .ok (.if_icmp .ge 55, 3) := by decide +kernel
theorem d_M_store_65 : decode b_M_store 65 = .ok (.bipush 104, 2) := by decide +kernel
theorem d_M_store_67 : decode b_M_store 67 = .ok (.bipush 12, 2) := by decide +kernel
theorem d_M_store_69 : decode b_M_store 69 = .ok (.iload_n 2, 1) := by decide +kernel
theorem d_M_store_70 : decode b_M_store 70 = .ok (.imul, 1) := by decide +kernel
theorem d_M_store_71 : decode b_M_store 71 = .ok (.iadd, 1) := by decide +kernel
theorem d_M_store_72 : decode b_M_store 72 = .ok (.istore_n 3, 1) := by decide +kernel
theorem d_M_store_73 : decode b_M_store 73 = .ok (.aload_n 1, 1) := by decide +kernel
theorem d_M_store_74 : decode b_M_store 74 = .ok (.iload_n 3, 1) := by decide +kernel
theorem d_M_store_75 : decode b_M_store 75 = .ok (.aload_n 0, 1) := by decide +kernel
theorem d_M_store_76 : decode b_M_store 76 = .ok (.getfield 11, 3) := by decide +kernel
theorem d_M_store_79 : decode b_M_store 79 = .ok (.iload_n 2, 1) := by decide +kernel
theorem d_M_store_80 : decode b_M_store 80 = .ok (.iaload, 1) := by decide +kernel
theorem d_M_store_81 : decode b_M_store 81 = .ok (.invokestatic 54, 3) := by decide +kernel
theorem d_M_store_84 : decode b_M_store 84 = .ok (.aload_n 1, 1) := by decide +kernel
theorem d_M_store_85 : decode b_M_store 85 = .ok (.iload_n 3, 1) := by decide +kernel
theorem d_M_store_86 : decode b_M_store 86 = .ok (.iconst 4, 1) := by decide +kernel
theorem d_M_store_87 : decode b_M_store 87 = .ok (.iadd, 1) := by decide +kernel
theorem d_M_store_88 : decode b_M_store 88 = .ok (.aload_n 0, 1) := by decide +kernel
theorem d_M_store_89 : decode b_M_store 89 = .ok (.getfield 15, 3) := by decide +kernel
theorem d_M_store_92 : decode b_M_store 92 = .ok (.iload_n 2, 1) := by decide +kernel
theorem d_M_store_93 : decode b_M_store 93 = .ok (.iaload, 1) := by decide +kernel
theorem d_M_store_94 : decode b_M_store 94 = .ok (.invokestatic 54, 3) := by decide +kernel
theorem d_M_store_97 : decode b_M_store 97 = .ok (.aload_n 1, 1) := by decide +kernel
theorem d_M_store_98 : decode b_M_store 98 = .ok (.iload_n 3, 1) := by decide +kernel
theorem d_M_store_99 : decode b_M_store 99 = .ok (.bipush 8, 2) := by decide +kernel
theorem d_M_store_101 : decode b_M_store 101 = .ok (.iadd, 1) := by decide +kernel
theorem d_M_store_102 : decode b_M_store 102 = .ok (.aload_n 0, 1) := by decide +kernel
theorem d_M_store_103 : decode b_M_store 103 = .ok (.getfield 18, 3) := by decide +kernel
theorem d_M_store_106 : decode b_M_store 106 = .ok (.iload_n 2, 1) := by decide +kernel
theorem d_M_store_107 : decode b_M_store 107 = .ok (.iaload, 1) := by decide +kernel
theorem d_M_store_108 : decode b_M_store 108 = .ok (.invokestatic 54, 3) := by decide +kernel
theorem d_M_store_111 : decode b_M_store 111 = .ok (.iinc 2 1, 3) := by decide +kernel
theorem d_M_store_114 : decode b_M_store 114 = .ok (.goto (-64), 3) := by decide +kernel
theorem d_M_store_117 : decode b_M_store 117 = .ok (.return_, 1) := by decide +kernel
abbrev b_M_load : ByteArray := prog_2_method_9_code
def y_M_load : MethodName := ⟨R_M, "load", "(LExtentDisk$Platter;I)V"⟩
abbrev w_M_load : List Cond := .code y_M_load b_M_load 7 none :: ew_T
theorem g_M_load : GoodIn ew_T w_M_load := ew_good ew_142
theorem d_M_load_0 : decode b_M_load 0 = .ok (.iload_n 2, 1) := by decide +kernel
theorem d_M_load_1 : decode b_M_load 1 = .ok (.sipush 4096, 3) := by decide +kernel
theorem d_M_load_4 : decode b_M_load 4 = .ok (.imul, 1) := by decide +kernel
theorem d_M_load_5 : decode b_M_load 5 = .ok (.istore_n 3, 1) := by decide +kernel
theorem d_M_load_6 : decode b_M_load 6 = .ok (.aload_n 0, 1) := by decide +kernel
theorem d_M_load_7 : decode b_M_load 7 = .ok (.invokevirtual 37, 3) := by decide +kernel
theorem d_M_load_10 : decode b_M_load 10 = .ok (.aload_n 0, 1) := by decide +kernel
theorem d_M_load_11 : decode b_M_load 11 = .ok (.aload_n 1, 1) := by decide +kernel
theorem d_M_load_12 : decode b_M_load 12 = .ok (.iload_n 3, 1) := by decide +kernel
theorem d_M_load_13 : decode b_M_load 13 = .ok (.iconst 0, 1) := by decide +kernel
theorem d_M_load_14 : decode b_M_load 14 = .ok (.iadd, 1) := by decide +kernel
theorem d_M_load_15 : decode b_M_load 15 = .ok (.invokevirtual 58, 3) := by decide +kernel
theorem d_M_load_18 : decode b_M_load 18 = .ok (.putfield 28, 3) := by decide +kernel
theorem d_M_load_21 : decode b_M_load 21 = .ok (.iconst 0, 1) := by decide +kernel
theorem d_M_load_22 : decode b_M_load 22 = .ok (.istore 4, 2) := by decide +kernel
theorem d_M_load_24 : decode b_M_load 24 = .ok (.iload 4, 2) := by decide +kernel
theorem d_M_load_26 : decode b_M_load 26 = .ok (.bipush 24, 2) := by decide +kernel
theorem d_M_load_28 : decode b_M_load 28 = .ok (.if_icmp .ge 29, 3) := by decide +kernel
theorem d_M_load_31 : decode b_M_load 31 = .ok (.aload_n 0, 1) := by decide +kernel
theorem d_M_load_32 : decode b_M_load 32 = .ok (.getfield 21, 3) := by decide +kernel
theorem d_M_load_35 : decode b_M_load 35 = .ok (.iload 4, 2) := by decide +kernel
theorem d_M_load_37 : decode b_M_load 37 = .ok (.aload_n 1, 1) := by decide +kernel
theorem d_M_load_38 : decode b_M_load 38 = .ok (.iload_n 3, 1) := by decide +kernel
theorem d_M_load_39 : decode b_M_load 39 = .ok (.bipush 8, 2) := by decide +kernel
theorem d_M_load_41 : decode b_M_load 41 = .ok (.iadd, 1) := by decide +kernel
theorem d_M_load_42 : decode b_M_load 42 = .ok (.iconst 4, 1) := by decide +kernel
theorem d_M_load_43 : decode b_M_load 43 = .ok (.iload 4, 2) := by decide +kernel
theorem d_M_load_45 : decode b_M_load 45 = .ok (.imul, 1) := by decide +kernel
theorem d_M_load_46 : decode b_M_load 46 = .ok (.iadd, 1) := by decide +kernel
theorem d_M_load_47 : decode b_M_load 47 = .ok (.invokevirtual 58, 3) := by decide +kernel
theorem d_M_load_50 : decode b_M_load 50 = .ok (.iastore, 1) := by decide +kernel
theorem d_M_load_51 : decode b_M_load 51 = .ok (.iinc 4 1, 3) := by decide +kernel
theorem d_M_load_54 : decode b_M_load 54 = .ok (.goto (-30), 3) := by decide +kernel
theorem d_M_load_57 : decode b_M_load 57 = .ok (.sipush 200, 3) := by decide +kernel
theorem d_M_load_60 : decode b_M_load 60 = .ok (.aload_n 1, 1) := by decide +kernel
theorem d_M_load_61 : decode b_M_load 61 = .ok (.iload_n 3, 1) := by decide +kernel
theorem d_M_load_62 : decode b_M_load 62 = .ok (.iconst 4, 1) := by decide +kernel
theorem d_M_load_63 : decode b_M_load 63 = .ok (.iadd, 1) := by decide +kernel
theorem d_M_load_64 : decode b_M_load 64 = .ok (.invokevirtual 58, 3) := by decide +kernel
theorem d_M_load_67 : decode b_M_load 67 = .ok (.invokestatic 63, 3) := by decide +kernel
theorem d_M_load_70 : decode b_M_load 70 = .ok (.istore 4, 2) := by decide +kernel
theorem d_M_load_72 : decode b_M_load 72 = .ok (.iconst 0, 1) := by decide +kernel
theorem d_M_load_73 : decode b_M_load 73 = .ok (.istore 5, 2) := by decide +kernel
theorem d_M_load_75 : decode b_M_load 75 = .ok (.iload 5, 2) := by decide +kernel
theorem d_M_load_77 : decode b_M_load 77 = .ok (.iload 4, 2) := by decide +kernel
theorem d_M_load_79 : decode b_M_load 79 = .ok (.if_icmp .ge 49, 3) := by decide +kernel
theorem d_M_load_82 : decode b_M_load 82 = .ok (.iload_n 3, 1) := by decide +kernel
theorem d_M_load_83 : decode b_M_load 83 = .ok (.bipush 104, 2) := by decide +kernel
theorem d_M_load_85 : decode b_M_load 85 = .ok (.iadd, 1) := by decide +kernel
theorem d_M_load_86 : decode b_M_load 86 = .ok (.bipush 12, 2) := by decide +kernel
theorem d_M_load_88 : decode b_M_load 88 = .ok (.iload 5, 2) := by decide +kernel
theorem d_M_load_90 : decode b_M_load 90 = .ok (.imul, 1) := by decide +kernel
theorem d_M_load_91 : decode b_M_load 91 = .ok (.iadd, 1) := by decide +kernel
theorem d_M_load_92 : decode b_M_load 92 = .ok (.istore 6, 2) := by decide +kernel
theorem d_M_load_94 : decode b_M_load 94 = .ok (.aload_n 0, 1) := by decide +kernel
theorem d_M_load_95 : decode b_M_load 95 = .ok (.aload_n 1, 1) := by decide +kernel
theorem d_M_load_96 : decode b_M_load 96 = .ok (.iload 6, 2) := by decide +kernel
theorem d_M_load_98 : decode b_M_load 98 = .ok (.invokevirtual 58, 3) := by decide +kernel
theorem d_M_load_101 : decode b_M_load 101 = .ok (.aload_n 1, 1) := by decide +kernel
theorem d_M_load_102 : decode b_M_load 102 = .ok (.iload 6, 2) := by decide +kernel
theorem d_M_load_104 : decode b_M_load 104 = .ok (.iconst 4, 1) := by decide +kernel
theorem d_M_load_105 : decode b_M_load 105 = .ok (.iadd, 1) := by decide +kernel
theorem d_M_load_106 : decode b_M_load 106 = .ok (.invokevirtual 58, 3) := by decide +kernel
theorem d_M_load_109 : decode b_M_load 109 = .ok (.aload_n 1, 1) := by decide +kernel
theorem d_M_load_110 : decode b_M_load 110 = .ok (.iload 6, 2) := by decide +kernel
theorem d_M_load_112 : decode b_M_load 112 = .ok (.bipush 8, 2) := by decide +kernel
theorem d_M_load_114 : decode b_M_load 114 = .ok (.iadd, 1) := by decide +kernel
theorem d_M_load_115 : decode b_M_load 115 = .ok (.invokevirtual 58, 3) := by decide +kernel
theorem d_M_load_118 : decode b_M_load 118 = .ok (.invokevirtual 40, 3) := by decide +kernel
theorem d_M_load_121 : decode b_M_load 121 = .ok (.pop, 1) := by decide +kernel
theorem d_M_load_122 : decode b_M_load 122 = .ok (.iinc 5 1, 3) := by decide +kernel
theorem d_M_load_125 : decode b_M_load 125 = .ok (.goto (-50), 3) := by decide +kernel
theorem d_M_load_128 : decode b_M_load 128 = .ok (.return_, 1) := by decide +kernel
abbrev b_D_freeBlocks : ByteArray := prog_1_method_17_code
def y_D_freeBlocks : MethodName := ⟨R_D, "freeBlocks", "()I"⟩
abbrev w_D_freeBlocks : List Cond := .code y_D_freeBlocks b_D_freeBlocks 3 (some .int) :: ew_T
theorem g_D_freeBlocks : GoodIn ew_T w_D_freeBlocks := ew_good ew_404
theorem d_D_freeBlocks_0 : decode b_D_freeBlocks 0 = .ok (.aload_n 0, 1) := by decide +kernel
theorem d_D_freeBlocks_1 : decode b_D_freeBlocks 1 = .ok (.getfield 48, 3) := by decide +kernel
theorem d_D_freeBlocks_4 : decode b_D_freeBlocks 4 = .ok (.aload_n 0, 1) := by decide +kernel
theorem d_D_freeBlocks_5 : decode b_D_freeBlocks 5 = .ok (.getfield 42, 3) := by decide +kernel
theorem d_D_freeBlocks_8 : decode b_D_freeBlocks 8 = .ok (.invokevirtual 170, 3) := by decide +kernel
theorem d_D_freeBlocks_11 : decode b_D_freeBlocks 11 = .ok (.iconst 0, 1) := by decide +kernel
theorem d_D_freeBlocks_12 : decode b_D_freeBlocks 12 = .ok (.istore_n 1, 1) := by decide +kernel
theorem d_D_freeBlocks_13 : decode b_D_freeBlocks 13 = .ok (.iconst 2, 1) := by decide +kernel
theorem d_D_freeBlocks_14 : decode b_D_freeBlocks 14 = .ok (.istore_n 2, 1) := by decide +kernel
theorem d_D_freeBlocks_15 : decode b_D_freeBlocks 15 = .ok (.iload_n 2, 1) := by decide +kernel
theorem d_D_freeBlocks_16 : decode b_D_freeBlocks 16 = .ok (.aload_n 0, 1) := by decide +kernel
theorem d_D_freeBlocks_17 : decode b_D_freeBlocks 17 = .ok (.getfield 42, 3) := by decide +kernel
theorem d_D_freeBlocks_20 : decode b_D_freeBlocks 20 = .ok (.arraylength, 1) := by decide +kernel
theorem d_D_freeBlocks_21 : decode b_D_freeBlocks 21 = .ok (.if_icmp .ge 21, 3) := by decide +kernel
theorem d_D_freeBlocks_24 : decode b_D_freeBlocks 24 = .ok (.aload_n 0, 1) := by decide +kernel
theorem d_D_freeBlocks_25 : decode b_D_freeBlocks 25 = .ok (.getfield 42, 3) := by decide +kernel
theorem d_D_freeBlocks_28 : decode b_D_freeBlocks 28 = .ok (.iload_n 2, 1) := by decide +kernel
theorem d_D_freeBlocks_29 : decode b_D_freeBlocks 29 = .ok (.iaload, 1) := by decide +kernel
theorem d_D_freeBlocks_30 : decode b_D_freeBlocks 30 = .ok (.ifCond .ne 6, 3) := by decide +kernel
theorem d_D_freeBlocks_33 : decode b_D_freeBlocks 33 = .ok (.iinc 1 1, 3) := by decide +kernel
theorem d_D_freeBlocks_36 : decode b_D_freeBlocks 36 = .ok (.iinc 2 1, 3) := by decide +kernel
theorem d_D_freeBlocks_39 : decode b_D_freeBlocks 39 = .ok (.goto (-24), 3) := by decide +kernel
theorem d_D_freeBlocks_42 : decode b_D_freeBlocks 42 = .ok (.iload_n 1, 1) := by decide +kernel
theorem d_D_freeBlocks_43 : decode b_D_freeBlocks 43 = .ok (.ireturn, 1) := by decide +kernel
abbrev b_D_firstFreeRow : ByteArray := prog_1_method_18_code
def y_D_firstFreeRow : MethodName := ⟨R_D, "firstFreeRow", "(I)I"⟩
abbrev w_D_firstFreeRow : List Cond := .code y_D_firstFreeRow b_D_firstFreeRow 4 (some .int) :: ew_T
theorem g_D_firstFreeRow : GoodIn ew_T w_D_firstFreeRow := ew_good ew_333
theorem d_D_firstFreeRow_0 : decode b_D_firstFreeRow 0 = .ok (.aload_n 0, 1) := by decide +kernel
theorem d_D_firstFreeRow_1 : decode b_D_firstFreeRow 1 = .ok (.getfield 48, 3) := by decide +kernel
theorem d_D_firstFreeRow_4 : decode b_D_firstFreeRow 4 = .ok (.aload_n 0, 1) := by decide +kernel
theorem d_D_firstFreeRow_5 : decode b_D_firstFreeRow 5 = .ok (.getfield 42, 3) := by decide +kernel
theorem d_D_firstFreeRow_8 : decode b_D_firstFreeRow 8 = .ok (.invokevirtual 170, 3) := by decide +kernel
theorem d_D_firstFreeRow_11 : decode b_D_firstFreeRow 11 = .ok (.iconst 0, 1) := by decide +kernel
theorem d_D_firstFreeRow_12 : decode b_D_firstFreeRow 12 = .ok (.istore_n 2, 1) := by decide +kernel
theorem d_D_firstFreeRow_13 : decode b_D_firstFreeRow 13 = .ok (.iconst 2, 1) := by decide +kernel
theorem d_D_firstFreeRow_14 : decode b_D_firstFreeRow 14 = .ok (.istore_n 3, 1) := by decide +kernel
theorem d_D_firstFreeRow_15 : decode b_D_firstFreeRow 15 = .ok (.iload_n 3, 1) := by decide +kernel
theorem d_D_firstFreeRow_16 : decode b_D_firstFreeRow 16 = .ok (.aload_n 0, 1) := by decide +kernel
theorem d_D_firstFreeRow_17 : decode b_D_firstFreeRow 17 = .ok (.getfield 42, 3) := by decide +kernel
theorem d_D_firstFreeRow_20 : decode b_D_firstFreeRow 20 = .ok (.arraylength, 1) := by decide +kernel
theorem d_D_firstFreeRow_21 : decode b_D_firstFreeRow 21 = .ok (.if_icmp .ge 37, 3) := by decide +kernel
theorem d_D_firstFreeRow_24 : decode b_D_firstFreeRow 24 = .ok (.aload_n 0, 1) := by decide +kernel
theorem d_D_firstFreeRow_25 : decode b_D_firstFreeRow 25 = .ok (.getfield 42, 3) := by decide +kernel
theorem d_D_firstFreeRow_28 : decode b_D_firstFreeRow 28 = .ok (.iload_n 3, 1) := by decide +kernel
theorem d_D_firstFreeRow_29 : decode b_D_firstFreeRow 29 = .ok (.iaload, 1) := by decide +kernel
theorem d_D_firstFreeRow_30 : decode b_D_firstFreeRow 30 = .ok (.ifCond .ne 9, 3) := by decide +kernel
theorem d_D_firstFreeRow_33 : decode b_D_firstFreeRow 33 = .ok (.iload_n 2, 1) := by decide +kernel
theorem d_D_firstFreeRow_34 : decode b_D_firstFreeRow 34 = .ok (.iconst 1, 1) := by decide +kernel
theorem d_D_firstFreeRow_35 : decode b_D_firstFreeRow 35 = .ok (.iadd, 1) := by decide +kernel
theorem d_D_firstFreeRow_36 : decode b_D_firstFreeRow 36 = .ok (.goto 4, 3) := by decide +kernel
theorem d_D_firstFreeRow_39 : decode b_D_firstFreeRow 39 = .ok (.iconst 0, 1) := by decide +kernel
theorem d_D_firstFreeRow_40 : decode b_D_firstFreeRow 40 = .ok (.istore_n 2, 1) := by decide +kernel
theorem d_D_firstFreeRow_41 : decode b_D_firstFreeRow 41 = .ok (.iload_n 2, 1) := by decide +kernel
theorem d_D_firstFreeRow_42 : decode b_D_firstFreeRow 42 = .ok (.iload_n 1, 1) := by decide +kernel
theorem d_D_firstFreeRow_43 : decode b_D_firstFreeRow 43 = .ok (.if_icmp .ne 9, 3) := by decide +kernel
theorem d_D_firstFreeRow_46 : decode b_D_firstFreeRow 46 = .ok (.iload_n 3, 1) := by decide +kernel
theorem d_D_firstFreeRow_47 : decode b_D_firstFreeRow 47 = .ok (.iload_n 1, 1) := by decide +kernel
theorem d_D_firstFreeRow_48 : decode b_D_firstFreeRow 48 = .ok (.isub, 1) := by decide +kernel
theorem d_D_firstFreeRow_49 : decode b_D_firstFreeRow 49 = .ok (.iconst 1, 1) := by decide +kernel
theorem d_D_firstFreeRow_50 : decode b_D_firstFreeRow 50 = .ok (.iadd, 1) := by decide +kernel
theorem d_D_firstFreeRow_51 : decode b_D_firstFreeRow 51 = .ok (.ireturn, 1) := by decide +kernel
theorem d_D_firstFreeRow_52 : decode b_D_firstFreeRow 52 = .ok (.iinc 3 1, 3) := by decide +kernel
theorem d_D_firstFreeRow_55 : decode b_D_firstFreeRow 55 = .ok (.goto (-40), 3) := by decide +kernel
theorem d_D_firstFreeRow_58 : decode b_D_firstFreeRow 58 = .ok (.iconst (-1), 1) := by decide +kernel
theorem d_D_firstFreeRow_59 : decode b_D_firstFreeRow 59 = .ok (.ireturn, 1) := by decide +kernel
abbrev b_D_makeNextCount : ByteArray := prog_1_method_20_code
def y_D_makeNextCount : MethodName := ⟨R_D, "makeNextCount", "()V"⟩
abbrev w_D_makeNextCount : List Cond := .code y_D_makeNextCount b_D_makeNextCount 2 none :: ew_T
theorem g_D_makeNextCount : GoodIn ew_T w_D_makeNextCount := ew_good ew_166
theorem d_D_makeNextCount_0 : decode b_D_makeNextCount 0 = .ok (.aload_n 0, 1) := by decide +kernel
theorem d_D_makeNextCount_1 : decode b_D_makeNextCount 1 = .ok (.getfield 48, 3) := by decide +kernel
theorem d_D_makeNextCount_4 : decode b_D_makeNextCount 4 = .ok (.astore_n 1, 1) := by decide +kernel
theorem d_D_makeNextCount_5 : decode b_D_makeNextCount 5 = .ok (.aload_n 0, 1) := by decide +kernel
theorem d_D_makeNextCount_6 : decode b_D_makeNextCount 6 = .ok (.aload_n 0, 1) := by decide +kernel
theorem d_D_makeNextCount_7 : decode b_D_makeNextCount 7 = .ok (.getfield 52, 3) := by decide +kernel
theorem d_D_makeNextCount_10 : decode b_D_makeNextCount 10 = .ok (.putfield 48, 3) := by decide +kernel
theorem d_D_makeNextCount_13 : decode b_D_makeNextCount 13 = .ok (.aload_n 0, 1) := by decide +kernel
theorem d_D_makeNextCount_14 : decode b_D_makeNextCount 14 = .ok (.aload_n 1, 1) := by decide +kernel
theorem d_D_makeNextCount_15 : decode b_D_makeNextCount 15 = .ok (.putfield 52, 3) := by decide +kernel
theorem d_D_makeNextCount_18 : decode b_D_makeNextCount 18 = .ok (.return_, 1) := by decide +kernel
abbrev b_D_forget : ByteArray := prog_1_method_21_code
def y_D_forget : MethodName := ⟨R_D, "forget", "()V"⟩
abbrev w_D_forget : List Cond := .code y_D_forget b_D_forget 1 none :: ew_T
theorem g_D_forget : GoodIn ew_T w_D_forget := ew_good ew_354
theorem d_D_forget_0 : decode b_D_forget 0 = .ok (.aload_n 0, 1) := by decide +kernel
theorem d_D_forget_1 : decode b_D_forget 1 = .ok (.getfield 30, 3) := by decide +kernel
theorem d_D_forget_4 : decode b_D_forget 4 = .ok (.iconst 0, 1) := by decide +kernel
theorem d_D_forget_5 : decode b_D_forget 5 = .ok (.putfield 79, 3) := by decide +kernel
theorem d_D_forget_8 : decode b_D_forget 8 = .ok (.aload_n 0, 1) := by decide +kernel
theorem d_D_forget_9 : decode b_D_forget 9 = .ok (.getfield 48, 3) := by decide +kernel
theorem d_D_forget_12 : decode b_D_forget 12 = .ok (.invokevirtual 184, 3) := by decide +kernel
theorem d_D_forget_15 : decode b_D_forget 15 = .ok (.aload_n 0, 1) := by decide +kernel
theorem d_D_forget_16 : decode b_D_forget 16 = .ok (.getfield 34, 3) := by decide +kernel
theorem d_D_forget_19 : decode b_D_forget 19 = .ok (.iconst 0, 1) := by decide +kernel
theorem d_D_forget_20 : decode b_D_forget 20 = .ok (.invokestatic 187, 3) := by decide +kernel
theorem d_D_forget_23 : decode b_D_forget 23 = .ok (.return_, 1) := by decide +kernel
abbrev b_D_carryOut : ByteArray := prog_1_method_19_code
def y_D_carryOut : MethodName := ⟨R_D, "carryOut", "(I)I"⟩
abbrev w_D_carryOut : List Cond := .code y_D_carryOut b_D_carryOut 4 (some .int) :: ew_T
theorem g_D_carryOut : GoodIn ew_T w_D_carryOut := ew_good ew_344
theorem d_D_carryOut_0 : decode b_D_carryOut 0 = .ok (.aload_n 0, 1) := by decide +kernel
theorem d_D_carryOut_1 : decode b_D_carryOut 1 = .ok (.getfield 30, 3) := by decide +kernel
theorem d_D_carryOut_4 : decode b_D_carryOut 4 = .ok (.getfield 79, 3) := by decide +kernel
theorem d_D_carryOut_7 : decode b_D_carryOut 7 = .ok (.invokestatic 101, 3) := by decide +kernel
theorem d_D_carryOut_10 : decode b_D_carryOut 10 = .ok (.istore_n 2, 1) := by decide +kernel
theorem d_D_carryOut_11 : decode b_D_carryOut 11 = .ok (.iconst 0, 1) := by decide +kernel
theorem d_D_carryOut_12 : decode b_D_carryOut 12 = .ok (.istore_n 3, 1) := by decide +kernel
theorem d_D_carryOut_13 : decode b_D_carryOut 13 = .ok (.iload_n 3, 1) := by decide +kernel
theorem d_D_carryOut_14 : decode b_D_carryOut 14 = .ok (.iload_n 2, 1) := by decide +kernel
theorem d_D_carryOut_15 : decode b_D_carryOut 15 = .ok (.if_icmp .ge 41, 3) := by decide +kernel
theorem d_D_carryOut_18 : decode b_D_carryOut 18 = .ok (.aload_n 0, 1) := by decide +kernel
theorem d_D_carryOut_19 : decode b_D_carryOut 19 = .ok (.getfield 23, 3) := by decide +kernel
theorem d_D_carryOut_22 : decode b_D_carryOut 22 = .ok (.iload_n 1, 1) := by decide +kernel
theorem d_D_carryOut_23 : decode b_D_carryOut 23 = .ok (.iload_n 3, 1) := by decide +kernel
theorem d_D_carryOut_24 : decode b_D_carryOut 24 = .ok (.iadd, 1) := by decide +kernel
theorem d_D_carryOut_25 : decode b_D_carryOut 25 = .ok (.aload_n 0, 1) := by decide +kernel
theorem d_D_carryOut_26 : decode b_D_carryOut 26 = .ok (.getfield 30, 3) := by decide +kernel
theorem d_D_carryOut_29 : decode b_D_carryOut 29 = .ok (.getfield 173, 3) := by decide +kernel
theorem d_D_carryOut_32 : decode b_D_carryOut 32 = .ok (.iload_n 3, 1) := by decide +kernel
theorem d_D_carryOut_33 : decode b_D_carryOut 33 = .ok (.sipush 4096, 3) := by decide +kernel
theorem d_D_carryOut_36 : decode b_D_carryOut 36 = .ok (.imul, 1) := by decide +kernel
theorem d_D_carryOut_37 : decode b_D_carryOut 37 = .ok (.invokevirtual 176, 3) := by decide +kernel
theorem d_D_carryOut_40 : decode b_D_carryOut 40 = .ok (.ifCond .ne 10, 3) := by decide +kernel
theorem d_D_carryOut_43 : decode b_D_carryOut 43 = .ok (.aload_n 0, 1) := by decide +kernel
theorem d_D_carryOut_44 : decode b_D_carryOut 44 = .ok (.invokevirtual 141, 3) := by decide +kernel
theorem d_D_carryOut_47 : decode b_D_carryOut 47 = .ok (.bipush (-3), 2) := by decide +kernel
theorem d_D_carryOut_49 : decode b_D_carryOut 49 = .ok (.ireturn, 1) := by decide +kernel
theorem d_D_carryOut_50 : decode b_D_carryOut 50 = .ok (.iinc 3 1, 3) := by decide +kernel
theorem d_D_carryOut_53 : decode b_D_carryOut 53 = .ok (.goto (-40), 3) := by decide +kernel
theorem d_D_carryOut_56 : decode b_D_carryOut 56 = .ok (.aload_n 0, 1) := by decide +kernel
theorem d_D_carryOut_57 : decode b_D_carryOut 57 = .ok (.getfield 52, 3) := by decide +kernel
theorem d_D_carryOut_60 : decode b_D_carryOut 60 = .ok (.aload_n 0, 1) := by decide +kernel
theorem d_D_carryOut_61 : decode b_D_carryOut 61 = .ok (.getfield 38, 3) := by decide +kernel
theorem d_D_carryOut_64 : decode b_D_carryOut 64 = .ok (.invokevirtual 180, 3) := by decide +kernel
theorem d_D_carryOut_67 : decode b_D_carryOut 67 = .ok (.aload_n 0, 1) := by decide +kernel
theorem d_D_carryOut_68 : decode b_D_carryOut 68 = .ok (.getfield 23, 3) := by decide +kernel
theorem d_D_carryOut_71 : decode b_D_carryOut 71 = .ok (.aload_n 0, 1) := by decide +kernel
theorem d_D_carryOut_72 : decode b_D_carryOut 72 = .ok (.getfield 52, 3) := by decide +kernel
theorem d_D_carryOut_75 : decode b_D_carryOut 75 = .ok (.getfield 148, 3) := by decide +kernel
theorem d_D_carryOut_78 : decode b_D_carryOut 78 = .ok (.iconst 1, 1) := by decide +kernel
theorem d_D_carryOut_79 : decode b_D_carryOut 79 = .ok (.iand, 1) := by decide +kernel
theorem d_D_carryOut_80 : decode b_D_carryOut 80 = .ok (.aload_n 0, 1) := by decide +kernel
theorem d_D_carryOut_81 : decode b_D_carryOut 81 = .ok (.getfield 38, 3) := by decide +kernel
theorem d_D_carryOut_84 : decode b_D_carryOut 84 = .ok (.iconst 0, 1) := by decide +kernel
theorem d_D_carryOut_85 : decode b_D_carryOut 85 = .ok (.invokevirtual 176, 3) := by decide +kernel
theorem d_D_carryOut_88 : decode b_D_carryOut 88 = .ok (.ifCond .ne 10, 3) := by decide +kernel
theorem d_D_carryOut_91 : decode b_D_carryOut 91 = .ok (.aload_n 0, 1) := by decide +kernel
theorem d_D_carryOut_92 : decode b_D_carryOut 92 = .ok (.invokevirtual 141, 3) := by decide +kernel
theorem d_D_carryOut_95 : decode b_D_carryOut 95 = .ok (.bipush (-3), 2) := by decide +kernel
theorem d_D_carryOut_97 : decode b_D_carryOut 97 = .ok (.ireturn, 1) := by decide +kernel
theorem d_D_carryOut_98 : decode b_D_carryOut 98 = .ok (.aload_n 0, 1) := by decide +kernel
theorem d_D_carryOut_99 : decode b_D_carryOut 99 = .ok (.invokevirtual 151, 3) := by decide +kernel
theorem d_D_carryOut_102 : decode b_D_carryOut 102 = .ok (.aload_n 0, 1) := by decide +kernel
theorem d_D_carryOut_103 : decode b_D_carryOut 103 = .ok (.getfield 30, 3) := by decide +kernel
theorem d_D_carryOut_106 : decode b_D_carryOut 106 = .ok (.iconst 0, 1) := by decide +kernel
theorem d_D_carryOut_107 : decode b_D_carryOut 107 = .ok (.putfield 79, 3) := by decide +kernel
theorem d_D_carryOut_110 : decode b_D_carryOut 110 = .ok (.iload_n 2, 1) := by decide +kernel
theorem d_D_carryOut_111 : decode b_D_carryOut 111 = .ok (.iconst 1, 1) := by decide +kernel
theorem d_D_carryOut_112 : decode b_D_carryOut 112 = .ok (.iadd, 1) := by decide +kernel
theorem d_D_carryOut_113 : decode b_D_carryOut 113 = .ok (.ireturn, 1) := by decide +kernel
abbrev b_D_drop : ByteArray := prog_1_method_4_code
def y_D_drop : MethodName := ⟨R_D, "drop", "()I"⟩
abbrev w_D_drop : List Cond := .code y_D_drop b_D_drop 2 (some .int) :: ew_T
theorem g_D_drop : GoodIn ew_T w_D_drop := ew_good ew_295
theorem d_D_drop_0 : decode b_D_drop 0 = .ok (.aload_n 0, 1) := by decide +kernel
theorem d_D_drop_1 : decode b_D_drop 1 = .ok (.getfield 23, 3) := by decide +kernel
theorem d_D_drop_4 : decode b_D_drop 4 = .ok (.getfield 62, 3) := by decide +kernel
theorem d_D_drop_7 : decode b_D_drop 7 = .ok (.ifCond .eq 13, 3) := by decide +kernel
theorem d_D_drop_10 : decode b_D_drop 10 = .ok (.new 70, 3) := by decide +kernel
theorem d_D_drop_13 : decode b_D_drop 13 = .ok (.dup, 1) := by decide +kernel
theorem d_D_drop_14 : decode b_D_drop 14 = .ok (.ldc 86, 2) := by decide +kernel
theorem d_D_drop_16 : decode b_D_drop 16 = .ok (.invokespecial 74, 3) := by decide +kernel
theorem d_D_drop_19 : decode b_D_drop 19 = .ok (.athrow, 1) := by decide +kernel
theorem d_D_drop_20 : decode b_D_drop 20 = .ok (.aload_n 0, 1) := by decide +kernel
theorem d_D_drop_21 : decode b_D_drop 21 = .ok (.getfield 30, 3) := by decide +kernel
theorem d_D_drop_24 : decode b_D_drop 24 = .ok (.getfield 79, 3) := by decide +kernel
theorem d_D_drop_27 : decode b_D_drop 27 = .ok (.istore_n 1, 1) := by decide +kernel
theorem d_D_drop_28 : decode b_D_drop 28 = .ok (.aload_n 0, 1) := by decide +kernel
theorem d_D_drop_29 : decode b_D_drop 29 = .ok (.getfield 30, 3) := by decide +kernel
theorem d_D_drop_32 : decode b_D_drop 32 = .ok (.iconst 0, 1) := by decide +kernel
theorem d_D_drop_33 : decode b_D_drop 33 = .ok (.putfield 79, 3) := by decide +kernel
theorem d_D_drop_36 : decode b_D_drop 36 = .ok (.iload_n 1, 1) := by decide +kernel
theorem d_D_drop_37 : decode b_D_drop 37 = .ok (.ireturn, 1) := by decide +kernel
abbrev b_D_wish : ByteArray := prog_1_method_5_code
def y_D_wish : MethodName := ⟨R_D, "wish", "(II)I"⟩
abbrev w_D_wish : List Cond := .code y_D_wish b_D_wish 4 (some .int) :: ew_T
theorem g_D_wish : GoodIn ew_T w_D_wish := ew_good ew_303
theorem d_D_wish_0 : decode b_D_wish 0 = .ok (.iload_n 1, 1) := by decide +kernel
theorem d_D_wish_1 : decode b_D_wish 1 = .ok (.ifCond .lt 9, 3) := by decide +kernel
theorem d_D_wish_4 : decode b_D_wish 4 = .ok (.iload_n 1, 1) := by decide +kernel
theorem d_D_wish_5 : decode b_D_wish 5 = .ok (.bipush 24, 2) := by decide +kernel
theorem d_D_wish_7 : decode b_D_wish 7 = .ok (.if_icmp .lt 13, 3) := by decide +kernel
theorem d_D_wish_10 : decode b_D_wish 10 = .ok (.new 55, 3) := by decide +kernel
theorem d_D_wish_13 : decode b_D_wish 13 = .ok (.dup, 1) := by decide +kernel
theorem d_D_wish_14 : decode b_D_wish 14 = .ok (.ldc 88, 2) := by decide +kernel
theorem d_D_wish_16 : decode b_D_wish 16 = .ok (.invokespecial 59, 3) := by decide +kernel
theorem d_D_wish_19 : decode b_D_wish 19 = .ok (.athrow, 1) := by decide +kernel
theorem d_D_wish_20 : decode b_D_wish 20 = .ok (.aload_n 0, 1) := by decide +kernel
theorem d_D_wish_21 : decode b_D_wish 21 = .ok (.getfield 23, 3) := by decide +kernel
theorem d_D_wish_24 : decode b_D_wish 24 = .ok (.getfield 62, 3) := by decide +kernel
theorem d_D_wish_27 : decode b_D_wish 27 = .ok (.ifCond .eq 13, 3) := by decide +kernel
theorem d_D_wish_30 : decode b_D_wish 30 = .ok (.new 70, 3) := by decide +kernel
theorem d_D_wish_33 : decode b_D_wish 33 = .ok (.dup, 1) := by decide +kernel
theorem d_D_wish_34 : decode b_D_wish 34 = .ok (.ldc 86, 2) := by decide +kernel
theorem d_D_wish_36 : decode b_D_wish 36 = .ok (.invokespecial 74, 3) := by decide +kernel
theorem d_D_wish_39 : decode b_D_wish 39 = .ok (.athrow, 1) := by decide +kernel
theorem d_D_wish_40 : decode b_D_wish 40 = .ok (.aload_n 0, 1) := by decide +kernel
theorem d_D_wish_41 : decode b_D_wish 41 = .ok (.getfield 34, 3) := by decide +kernel
theorem d_D_wish_44 : decode b_D_wish 44 = .ok (.iload_n 1, 1) := by decide +kernel
theorem d_D_wish_45 : decode b_D_wish 45 = .ok (.iaload, 1) := by decide +kernel
theorem d_D_wish_46 : decode b_D_wish 46 = .ok (.istore_n 3, 1) := by decide +kernel
theorem d_D_wish_47 : decode b_D_wish 47 = .ok (.aload_n 0, 1) := by decide +kernel
theorem d_D_wish_48 : decode b_D_wish 48 = .ok (.getfield 34, 3) := by decide +kernel
theorem d_D_wish_51 : decode b_D_wish 51 = .ok (.iload_n 1, 1) := by decide +kernel
theorem d_D_wish_52 : decode b_D_wish 52 = .ok (.iload_n 2, 1) := by decide +kernel
theorem d_D_wish_53 : decode b_D_wish 53 = .ok (.iastore, 1) := by decide +kernel
theorem d_D_wish_54 : decode b_D_wish 54 = .ok (.iload_n 3, 1) := by decide +kernel
theorem d_D_wish_55 : decode b_D_wish 55 = .ok (.ireturn, 1) := by decide +kernel
abbrev b_D_note : ByteArray := prog_1_method_6_code
def y_D_note : MethodName := ⟨R_D, "note", "(I)I"⟩
abbrev w_D_note : List Cond := .code y_D_note b_D_note 2 (some .int) :: ew_T
theorem g_D_note : GoodIn ew_T w_D_note := ew_good ew_311
theorem d_D_note_0 : decode b_D_note 0 = .ok (.iload_n 1, 1) := by decide +kernel
theorem d_D_note_1 : decode b_D_note 1 = .ok (.ifCond .lt 9, 3) := by decide +kernel
theorem d_D_note_4 : decode b_D_note 4 = .ok (.iload_n 1, 1) := by decide +kernel
theorem d_D_note_5 : decode b_D_note 5 = .ok (.bipush 24, 2) := by decide +kernel
theorem d_D_note_7 : decode b_D_note 7 = .ok (.if_icmp .lt 13, 3) := by decide +kernel
theorem d_D_note_10 : decode b_D_note 10 = .ok (.new 55, 3) := by decide +kernel
theorem d_D_note_13 : decode b_D_note 13 = .ok (.dup, 1) := by decide +kernel
theorem d_D_note_14 : decode b_D_note 14 = .ok (.ldc 88, 2) := by decide +kernel
theorem d_D_note_16 : decode b_D_note 16 = .ok (.invokespecial 59, 3) := by decide +kernel
theorem d_D_note_19 : decode b_D_note 19 = .ok (.athrow, 1) := by decide +kernel
theorem d_D_note_20 : decode b_D_note 20 = .ok (.aload_n 0, 1) := by decide +kernel
theorem d_D_note_21 : decode b_D_note 21 = .ok (.getfield 23, 3) := by decide +kernel
theorem d_D_note_24 : decode b_D_note 24 = .ok (.getfield 62, 3) := by decide +kernel
theorem d_D_note_27 : decode b_D_note 27 = .ok (.ifCond .eq 13, 3) := by decide +kernel
theorem d_D_note_30 : decode b_D_note 30 = .ok (.new 70, 3) := by decide +kernel
theorem d_D_note_33 : decode b_D_note 33 = .ok (.dup, 1) := by decide +kernel
theorem d_D_note_34 : decode b_D_note 34 = .ok (.ldc 86, 2) := by decide +kernel
theorem d_D_note_36 : decode b_D_note 36 = .ok (.invokespecial 74, 3) := by decide +kernel
theorem d_D_note_39 : decode b_D_note 39 = .ok (.athrow, 1) := by decide +kernel
theorem d_D_note_40 : decode b_D_note 40 = .ok (.aload_n 0, 1) := by decide +kernel
theorem d_D_note_41 : decode b_D_note 41 = .ok (.getfield 48, 3) := by decide +kernel
theorem d_D_note_44 : decode b_D_note 44 = .ok (.getfield 90, 3) := by decide +kernel
theorem d_D_note_47 : decode b_D_note 47 = .ok (.iload_n 1, 1) := by decide +kernel
theorem d_D_note_48 : decode b_D_note 48 = .ok (.iaload, 1) := by decide +kernel
theorem d_D_note_49 : decode b_D_note 49 = .ok (.ireturn, 1) := by decide +kernel
abbrev b_D_put : ByteArray := prog_1_method_2_code
def y_D_put : MethodName := ⟨R_D, "put", "(JI)I"⟩
abbrev w_D_put : List Cond := .code y_D_put b_D_put 5 (some .int) :: ew_T
theorem g_D_put : GoodIn ew_T w_D_put := ew_good ew_189
theorem d_D_put_0 : decode b_D_put 0 = .ok (.iload_n 3, 1) := by decide +kernel
theorem d_D_put_1 : decode b_D_put 1 = .ok (.iconst 1, 1) := by decide +kernel
theorem d_D_put_2 : decode b_D_put 2 = .ok (.if_icmp .lt 9, 3) := by decide +kernel
theorem d_D_put_5 : decode b_D_put 5 = .ok (.iload_n 3, 1) := by decide +kernel
theorem d_D_put_6 : decode b_D_put 6 = .ok (.bipush 8, 2) := by decide +kernel
theorem d_D_put_8 : decode b_D_put 8 = .ok (.if_icmp .le 13, 3) := by decide +kernel
theorem d_D_put_11 : decode b_D_put 11 = .ok (.new 55, 3) := by decide +kernel
theorem d_D_put_14 : decode b_D_put 14 = .ok (.dup, 1) := by decide +kernel
theorem d_D_put_15 : decode b_D_put 15 = .ok (.ldc 57, 2) := by decide +kernel
theorem d_D_put_17 : decode b_D_put 17 = .ok (.invokespecial 59, 3) := by decide +kernel
theorem d_D_put_20 : decode b_D_put 20 = .ok (.athrow, 1) := by decide +kernel
theorem d_D_put_21 : decode b_D_put 21 = .ok (.aload_n 0, 1) := by decide +kernel
theorem d_D_put_22 : decode b_D_put 22 = .ok (.getfield 23, 3) := by decide +kernel
theorem d_D_put_25 : decode b_D_put 25 = .ok (.getfield 62, 3) := by decide +kernel
theorem d_D_put_28 : decode b_D_put 28 = .ok (.ifCond .ne 14, 3) := by decide +kernel
theorem d_D_put_31 : decode b_D_put 31 = .ok (.aload_n 0, 1) := by decide +kernel
theorem d_D_put_32 : decode b_D_put 32 = .ok (.getfield 30, 3) := by decide +kernel
theorem d_D_put_35 : decode b_D_put 35 = .ok (.iload_n 3, 1) := by decide +kernel
theorem d_D_put_36 : decode b_D_put 36 = .ok (.invokevirtual 66, 3) := by decide +kernel
theorem d_D_put_39 : decode b_D_put 39 = .ok (.ifCond .ne 13, 3) := by decide +kernel
theorem d_D_put_42 : decode b_D_put 42 = .ok (.new 70, 3) := by decide +kernel
theorem d_D_put_45 : decode b_D_put 45 = .ok (.dup, 1) := by decide +kernel
theorem d_D_put_46 : decode b_D_put 46 = .ok (.ldc 72, 2) := by decide +kernel
theorem d_D_put_48 : decode b_D_put 48 = .ok (.invokespecial 74, 3) := by decide +kernel
theorem d_D_put_51 : decode b_D_put 51 = .ok (.athrow, 1) := by decide +kernel
theorem d_D_put_52 : decode b_D_put 52 = .ok (.iload_n 3, 1) := by decide +kernel
theorem d_D_put_53 : decode b_D_put 53 = .ok (.iconst 1, 1) := by decide +kernel
theorem d_D_put_54 : decode b_D_put 54 = .ok (.isub, 1) := by decide +kernel
theorem d_D_put_55 : decode b_D_put 55 = .ok (.istore 4, 2) := by decide +kernel
theorem d_D_put_57 : decode b_D_put 57 = .ok (.iload 4, 2) := by decide +kernel
theorem d_D_put_59 : decode b_D_put 59 = .ok (.ifCond .lt 25, 3) := by decide +kernel
theorem d_D_put_62 : decode b_D_put 62 = .ok (.aload_n 0, 1) := by decide +kernel
theorem d_D_put_63 : decode b_D_put 63 = .ok (.getfield 30, 3) := by decide +kernel
theorem d_D_put_66 : decode b_D_put 66 = .ok (.lload_n 1, 1) := by decide +kernel
theorem d_D_put_67 : decode b_D_put 67 = .ok (.bipush 8, 2) := by decide +kernel
theorem d_D_put_69 : decode b_D_put 69 = .ok (.iload 4, 2) := by decide +kernel
theorem d_D_put_71 : decode b_D_put 71 = .ok (.imul, 1) := by decide +kernel
theorem d_D_put_72 : decode b_D_put 72 = .ok (.lushr, 1) := by decide +kernel
theorem d_D_put_73 : decode b_D_put 73 = .ok (.l2i, 1) := by decide +kernel
theorem d_D_put_74 : decode b_D_put 74 = .ok (.i2b, 1) := by decide +kernel
theorem d_D_put_75 : decode b_D_put 75 = .ok (.invokevirtual 75, 3) := by decide +kernel
theorem d_D_put_78 : decode b_D_put 78 = .ok (.iinc 4 (-1), 3) := by decide +kernel
theorem d_D_put_81 : decode b_D_put 81 = .ok (.goto (-24), 3) := by decide +kernel
theorem d_D_put_84 : decode b_D_put 84 = .ok (.aload_n 0, 1) := by decide +kernel
theorem d_D_put_85 : decode b_D_put 85 = .ok (.getfield 30, 3) := by decide +kernel
theorem d_D_put_88 : decode b_D_put 88 = .ok (.getfield 79, 3) := by decide +kernel
theorem d_D_put_91 : decode b_D_put 91 = .ok (.ireturn, 1) := by decide +kernel
abbrev b_D_fill : ByteArray := prog_1_method_3_code
def y_D_fill : MethodName := ⟨R_D, "fill", "(II)I"⟩
abbrev w_D_fill : List Cond := .code y_D_fill b_D_fill 4 (some .int) :: ew_T
theorem g_D_fill : GoodIn ew_T w_D_fill := ew_good ew_286
theorem d_D_fill_0 : decode b_D_fill 0 = .ok (.iload_n 2, 1) := by decide +kernel
theorem d_D_fill_1 : decode b_D_fill 1 = .ok (.iconst 1, 1) := by decide +kernel
theorem d_D_fill_2 : decode b_D_fill 2 = .ok (.if_icmp .lt 9, 3) := by decide +kernel
theorem d_D_fill_5 : decode b_D_fill 5 = .ok (.iload_n 2, 1) := by decide +kernel
theorem d_D_fill_6 : decode b_D_fill 6 = .ok (.ldc 83, 2) := by decide +kernel
theorem d_D_fill_8 : decode b_D_fill 8 = .ok (.if_icmp .le 13, 3) := by decide +kernel
theorem d_D_fill_11 : decode b_D_fill 11 = .ok (.new 55, 3) := by decide +kernel
theorem d_D_fill_14 : decode b_D_fill 14 = .ok (.dup, 1) := by decide +kernel
theorem d_D_fill_15 : decode b_D_fill 15 = .ok (.ldc 84, 2) := by decide +kernel
theorem d_D_fill_17 : decode b_D_fill 17 = .ok (.invokespecial 59, 3) := by decide +kernel
theorem d_D_fill_20 : decode b_D_fill 20 = .ok (.athrow, 1) := by decide +kernel
theorem d_D_fill_21 : decode b_D_fill 21 = .ok (.aload_n 0, 1) := by decide +kernel
theorem d_D_fill_22 : decode b_D_fill 22 = .ok (.getfield 23, 3) := by decide +kernel
theorem d_D_fill_25 : decode b_D_fill 25 = .ok (.getfield 62, 3) := by decide +kernel
theorem d_D_fill_28 : decode b_D_fill 28 = .ok (.ifCond .ne 14, 3) := by decide +kernel
theorem d_D_fill_31 : decode b_D_fill 31 = .ok (.aload_n 0, 1) := by decide +kernel
theorem d_D_fill_32 : decode b_D_fill 32 = .ok (.getfield 30, 3) := by decide +kernel
theorem d_D_fill_35 : decode b_D_fill 35 = .ok (.iload_n 2, 1) := by decide +kernel
theorem d_D_fill_36 : decode b_D_fill 36 = .ok (.invokevirtual 66, 3) := by decide +kernel
theorem d_D_fill_39 : decode b_D_fill 39 = .ok (.ifCond .ne 13, 3) := by decide +kernel
theorem d_D_fill_42 : decode b_D_fill 42 = .ok (.new 70, 3) := by decide +kernel
theorem d_D_fill_45 : decode b_D_fill 45 = .ok (.dup, 1) := by decide +kernel
theorem d_D_fill_46 : decode b_D_fill 46 = .ok (.ldc 72, 2) := by decide +kernel
theorem d_D_fill_48 : decode b_D_fill 48 = .ok (.invokespecial 74, 3) := by decide +kernel
theorem d_D_fill_51 : decode b_D_fill 51 = .ok (.athrow, 1) := by decide +kernel
theorem d_D_fill_52 : decode b_D_fill 52 = .ok (.iconst 0, 1) := by decide +kernel
theorem d_D_fill_53 : decode b_D_fill 53 = .ok (.istore_n 3, 1) := by decide +kernel
theorem d_D_fill_54 : decode b_D_fill 54 = .ok (.iload_n 3, 1) := by decide +kernel
theorem d_D_fill_55 : decode b_D_fill 55 = .ok (.iload_n 2, 1) := by decide +kernel
theorem d_D_fill_56 : decode b_D_fill 56 = .ok (.if_icmp .ge 20, 3) := by decide +kernel
theorem d_D_fill_59 : decode b_D_fill 59 = .ok (.aload_n 0, 1) := by decide +kernel
theorem d_D_fill_60 : decode b_D_fill 60 = .ok (.getfield 30, 3) := by decide +kernel
theorem d_D_fill_63 : decode b_D_fill 63 = .ok (.iload_n 1, 1) := by decide +kernel
theorem d_D_fill_64 : decode b_D_fill 64 = .ok (.iload_n 3, 1) := by decide +kernel
theorem d_D_fill_65 : decode b_D_fill 65 = .ok (.iadd, 1) := by decide +kernel
theorem d_D_fill_66 : decode b_D_fill 66 = .ok (.i2b, 1) := by decide +kernel
theorem d_D_fill_67 : decode b_D_fill 67 = .ok (.invokevirtual 75, 3) := by decide +kernel
theorem d_D_fill_70 : decode b_D_fill 70 = .ok (.iinc 3 1, 3) := by decide +kernel
theorem d_D_fill_73 : decode b_D_fill 73 = .ok (.goto (-19), 3) := by decide +kernel
theorem d_D_fill_76 : decode b_D_fill 76 = .ok (.aload_n 0, 1) := by decide +kernel
theorem d_D_fill_77 : decode b_D_fill 77 = .ok (.getfield 30, 3) := by decide +kernel
theorem d_D_fill_80 : decode b_D_fill 80 = .ok (.getfield 79, 3) := by decide +kernel
theorem d_D_fill_83 : decode b_D_fill 83 = .ok (.ireturn, 1) := by decide +kernel
abbrev b_D_isDown : ByteArray := prog_1_method_12_code
def y_D_isDown : MethodName := ⟨R_D, "isDown", "()Z"⟩
abbrev w_D_isDown : List Cond := .code y_D_isDown b_D_isDown 1 (some .boolean) :: ew_T
theorem g_D_isDown : GoodIn ew_T w_D_isDown := ew_good ew_173
theorem d_D_isDown_0 : decode b_D_isDown 0 = .ok (.aload_n 0, 1) := by decide +kernel
theorem d_D_isDown_1 : decode b_D_isDown 1 = .ok (.getfield 23, 3) := by decide +kernel
theorem d_D_isDown_4 : decode b_D_isDown 4 = .ok (.getfield 62, 3) := by decide +kernel
theorem d_D_isDown_7 : decode b_D_isDown 7 = .ok (.ireturn, 1) := by decide +kernel
abbrev b_D_writes : ByteArray := prog_1_method_13_code
def y_D_writes : MethodName := ⟨R_D, "writes", "()I"⟩
abbrev w_D_writes : List Cond := .code y_D_writes b_D_writes 1 (some .int) :: ew_T
theorem g_D_writes : GoodIn ew_T w_D_writes := ew_good ew_177
theorem d_D_writes_0 : decode b_D_writes 0 = .ok (.aload_n 0, 1) := by decide +kernel
theorem d_D_writes_1 : decode b_D_writes 1 = .ok (.getfield 23, 3) := by decide +kernel
theorem d_D_writes_4 : decode b_D_writes 4 = .ok (.getfield 163, 3) := by decide +kernel
theorem d_D_writes_7 : decode b_D_writes 7 = .ok (.ireturn, 1) := by decide +kernel
abbrev b_D_crash : ByteArray := prog_1_method_10_code
def y_D_crash : MethodName := ⟨R_D, "crash", "(I)V"⟩
abbrev w_D_crash : List Cond := .code y_D_crash b_D_crash 2 none :: ew_T
theorem g_D_crash : GoodIn ew_T w_D_crash := ew_good ew_392
theorem d_D_crash_0 : decode b_D_crash 0 = .ok (.iload_n 1, 1) := by decide +kernel
theorem d_D_crash_1 : decode b_D_crash 1 = .ok (.iconst (-1), 1) := by decide +kernel
theorem d_D_crash_2 : decode b_D_crash 2 = .ok (.if_icmp .lt 10, 3) := by decide +kernel
theorem d_D_crash_5 : decode b_D_crash 5 = .ok (.iload_n 1, 1) := by decide +kernel
theorem d_D_crash_6 : decode b_D_crash 6 = .ok (.sipush 1000, 3) := by decide +kernel
theorem d_D_crash_9 : decode b_D_crash 9 = .ok (.if_icmp .le 13, 3) := by decide +kernel
theorem d_D_crash_12 : decode b_D_crash 12 = .ok (.new 55, 3) := by decide +kernel
theorem d_D_crash_15 : decode b_D_crash 15 = .ok (.dup, 1) := by decide +kernel
theorem d_D_crash_16 : decode b_D_crash 16 = .ok (.ldc 136, 2) := by decide +kernel
theorem d_D_crash_18 : decode b_D_crash 18 = .ok (.invokespecial 59, 3) := by decide +kernel
theorem d_D_crash_21 : decode b_D_crash 21 = .ok (.athrow, 1) := by decide +kernel
theorem d_D_crash_22 : decode b_D_crash 22 = .ok (.aload_n 0, 1) := by decide +kernel
theorem d_D_crash_23 : decode b_D_crash 23 = .ok (.getfield 23, 3) := by decide +kernel
theorem d_D_crash_26 : decode b_D_crash 26 = .ok (.getfield 62, 3) := by decide +kernel
theorem d_D_crash_29 : decode b_D_crash 29 = .ok (.ifCond .eq 13, 3) := by decide +kernel
theorem d_D_crash_32 : decode b_D_crash 32 = .ok (.new 70, 3) := by decide +kernel
theorem d_D_crash_35 : decode b_D_crash 35 = .ok (.dup, 1) := by decide +kernel
theorem d_D_crash_36 : decode b_D_crash 36 = .ok (.ldc 86, 2) := by decide +kernel
theorem d_D_crash_38 : decode b_D_crash 38 = .ok (.invokespecial 74, 3) := by decide +kernel
theorem d_D_crash_41 : decode b_D_crash 41 = .ok (.athrow, 1) := by decide +kernel
theorem d_D_crash_42 : decode b_D_crash 42 = .ok (.aload_n 0, 1) := by decide +kernel
theorem d_D_crash_43 : decode b_D_crash 43 = .ok (.getfield 23, 3) := by decide +kernel
theorem d_D_crash_46 : decode b_D_crash 46 = .ok (.iload_n 1, 1) := by decide +kernel
theorem d_D_crash_47 : decode b_D_crash 47 = .ok (.invokevirtual 138, 3) := by decide +kernel
theorem d_D_crash_50 : decode b_D_crash 50 = .ok (.aload_n 0, 1) := by decide +kernel
theorem d_D_crash_51 : decode b_D_crash 51 = .ok (.getfield 23, 3) := by decide +kernel
theorem d_D_crash_54 : decode b_D_crash 54 = .ok (.getfield 62, 3) := by decide +kernel
theorem d_D_crash_57 : decode b_D_crash 57 = .ok (.ifCond .eq 7, 3) := by decide +kernel
theorem d_D_crash_60 : decode b_D_crash 60 = .ok (.aload_n 0, 1) := by decide +kernel
theorem d_D_crash_61 : decode b_D_crash 61 = .ok (.invokevirtual 141, 3) := by decide +kernel
theorem d_D_crash_64 : decode b_D_crash 64 = .ok (.return_, 1) := by decide +kernel
abbrev b_D_byteAt : ByteArray := prog_1_method_9_code
def y_D_byteAt : MethodName := ⟨R_D, "byteAt", "(II)I"⟩
abbrev w_D_byteAt : List Cond := .code y_D_byteAt b_D_byteAt 3 (some .int) :: ew_T
theorem g_D_byteAt : GoodIn ew_T w_D_byteAt := ew_good ew_383
theorem d_D_byteAt_0 : decode b_D_byteAt 0 = .ok (.aload_n 0, 1) := by decide +kernel
theorem d_D_byteAt_1 : decode b_D_byteAt 1 = .ok (.getfield 48, 3) := by decide +kernel
theorem d_D_byteAt_4 : decode b_D_byteAt 4 = .ok (.iload_n 1, 1) := by decide +kernel
theorem d_D_byteAt_5 : decode b_D_byteAt 5 = .ok (.invokevirtual 115, 3) := by decide +kernel
theorem d_D_byteAt_8 : decode b_D_byteAt 8 = .ok (.ifCond .ne 13, 3) := by decide +kernel
theorem d_D_byteAt_11 : decode b_D_byteAt 11 = .ok (.new 55, 3) := by decide +kernel
theorem d_D_byteAt_14 : decode b_D_byteAt 14 = .ok (.dup, 1) := by decide +kernel
theorem d_D_byteAt_15 : decode b_D_byteAt 15 = .ok (.ldc 118, 2) := by decide +kernel
theorem d_D_byteAt_17 : decode b_D_byteAt 17 = .ok (.invokespecial 59, 3) := by decide +kernel
theorem d_D_byteAt_20 : decode b_D_byteAt 20 = .ok (.athrow, 1) := by decide +kernel
theorem d_D_byteAt_21 : decode b_D_byteAt 21 = .ok (.iload_n 2, 1) := by decide +kernel
theorem d_D_byteAt_22 : decode b_D_byteAt 22 = .ok (.ifCond .lt 16, 3) := by decide +kernel
theorem d_D_byteAt_25 : decode b_D_byteAt 25 = .ok (.iload_n 2, 1) := by decide +kernel
theorem d_D_byteAt_26 : decode b_D_byteAt 26 = .ok (.aload_n 0, 1) := by decide +kernel
theorem d_D_byteAt_27 : decode b_D_byteAt 27 = .ok (.getfield 48, 3) := by decide +kernel
theorem d_D_byteAt_30 : decode b_D_byteAt 30 = .ok (.getfield 126, 3) := by decide +kernel
theorem d_D_byteAt_33 : decode b_D_byteAt 33 = .ok (.iload_n 1, 1) := by decide +kernel
theorem d_D_byteAt_34 : decode b_D_byteAt 34 = .ok (.iaload, 1) := by decide +kernel
theorem d_D_byteAt_35 : decode b_D_byteAt 35 = .ok (.if_icmp .lt 13, 3) := by decide +kernel
theorem d_D_byteAt_38 : decode b_D_byteAt 38 = .ok (.new 55, 3) := by decide +kernel
theorem d_D_byteAt_41 : decode b_D_byteAt 41 = .ok (.dup, 1) := by decide +kernel
theorem d_D_byteAt_42 : decode b_D_byteAt 42 = .ok (.ldc 131, 2) := by decide +kernel
theorem d_D_byteAt_44 : decode b_D_byteAt 44 = .ok (.invokespecial 59, 3) := by decide +kernel
theorem d_D_byteAt_47 : decode b_D_byteAt 47 = .ok (.athrow, 1) := by decide +kernel
theorem d_D_byteAt_48 : decode b_D_byteAt 48 = .ok (.aload_n 0, 1) := by decide +kernel
theorem d_D_byteAt_49 : decode b_D_byteAt 49 = .ok (.getfield 23, 3) := by decide +kernel
theorem d_D_byteAt_52 : decode b_D_byteAt 52 = .ok (.aload_n 0, 1) := by decide +kernel
theorem d_D_byteAt_53 : decode b_D_byteAt 53 = .ok (.getfield 48, 3) := by decide +kernel
theorem d_D_byteAt_56 : decode b_D_byteAt 56 = .ok (.getfield 123, 3) := by decide +kernel
theorem d_D_byteAt_59 : decode b_D_byteAt 59 = .ok (.iload_n 1, 1) := by decide +kernel
theorem d_D_byteAt_60 : decode b_D_byteAt 60 = .ok (.iaload, 1) := by decide +kernel
theorem d_D_byteAt_61 : decode b_D_byteAt 61 = .ok (.sipush 4096, 3) := by decide +kernel
theorem d_D_byteAt_64 : decode b_D_byteAt 64 = .ok (.imul, 1) := by decide +kernel
theorem d_D_byteAt_65 : decode b_D_byteAt 65 = .ok (.iload_n 2, 1) := by decide +kernel
theorem d_D_byteAt_66 : decode b_D_byteAt 66 = .ok (.iadd, 1) := by decide +kernel
theorem d_D_byteAt_67 : decode b_D_byteAt 67 = .ok (.invokevirtual 133, 3) := by decide +kernel
theorem d_D_byteAt_70 : decode b_D_byteAt 70 = .ok (.ireturn, 1) := by decide +kernel
abbrev b_D_extent : ByteArray := prog_1_method_8_code
def y_D_extent : MethodName := ⟨R_D, "extent", "(II)I"⟩
abbrev w_D_extent : List Cond := .code y_D_extent b_D_extent 3 (some .int) :: ew_T
theorem g_D_extent : GoodIn ew_T w_D_extent := ew_good ew_370
theorem d_D_extent_0 : decode b_D_extent 0 = .ok (.aload_n 0, 1) := by decide +kernel
theorem d_D_extent_1 : decode b_D_extent 1 = .ok (.getfield 48, 3) := by decide +kernel
theorem d_D_extent_4 : decode b_D_extent 4 = .ok (.iload_n 1, 1) := by decide +kernel
theorem d_D_extent_5 : decode b_D_extent 5 = .ok (.invokevirtual 115, 3) := by decide +kernel
theorem d_D_extent_8 : decode b_D_extent 8 = .ok (.ifCond .ne 13, 3) := by decide +kernel
theorem d_D_extent_11 : decode b_D_extent 11 = .ok (.new 55, 3) := by decide +kernel
theorem d_D_extent_14 : decode b_D_extent 14 = .ok (.dup, 1) := by decide +kernel
theorem d_D_extent_15 : decode b_D_extent 15 = .ok (.ldc 118, 2) := by decide +kernel
theorem d_D_extent_17 : decode b_D_extent 17 = .ok (.invokespecial 59, 3) := by decide +kernel
theorem d_D_extent_20 : decode b_D_extent 20 = .ok (.athrow, 1) := by decide +kernel
theorem d_D_extent_21 : decode b_D_extent 21 = .ok (.iload_n 2, 1) := by decide +kernel
theorem d_D_extent_22 : decode b_D_extent 22 = .ok (.tableswitch 73 0 3 #[30, 40, 50, 63], 30) := by decide +kernel
theorem d_D_extent_52 : decode b_D_extent 52 = .ok (.aload_n 0, 1) := by decide +kernel
theorem d_D_extent_53 : decode b_D_extent 53 = .ok (.getfield 48, 3) := by decide +kernel
theorem d_D_extent_56 : decode b_D_extent 56 = .ok (.getfield 120, 3) := by decide +kernel
theorem d_D_extent_59 : decode b_D_extent 59 = .ok (.iload_n 1, 1) := by decide +kernel
theorem d_D_extent_60 : decode b_D_extent 60 = .ok (.iaload, 1) := by decide +kernel
theorem d_D_extent_61 : decode b_D_extent 61 = .ok (.ireturn, 1) := by decide +kernel
theorem d_D_extent_62 : decode b_D_extent 62 = .ok (.aload_n 0, 1) := by decide +kernel
theorem d_D_extent_63 : decode b_D_extent 63 = .ok (.getfield 48, 3) := by decide +kernel
theorem d_D_extent_66 : decode b_D_extent 66 = .ok (.getfield 123, 3) := by decide +kernel
theorem d_D_extent_69 : decode b_D_extent 69 = .ok (.iload_n 1, 1) := by decide +kernel
theorem d_D_extent_70 : decode b_D_extent 70 = .ok (.iaload, 1) := by decide +kernel
theorem d_D_extent_71 : decode b_D_extent 71 = .ok (.ireturn, 1) := by decide +kernel
theorem d_D_extent_72 : decode b_D_extent 72 = .ok (.aload_n 0, 1) := by decide +kernel
theorem d_D_extent_73 : decode b_D_extent 73 = .ok (.getfield 48, 3) := by decide +kernel
theorem d_D_extent_76 : decode b_D_extent 76 = .ok (.getfield 126, 3) := by decide +kernel
theorem d_D_extent_79 : decode b_D_extent 79 = .ok (.iload_n 1, 1) := by decide +kernel
theorem d_D_extent_80 : decode b_D_extent 80 = .ok (.iaload, 1) := by decide +kernel
theorem d_D_extent_81 : decode b_D_extent 81 = .ok (.invokestatic 101, 3) := by decide +kernel
theorem d_D_extent_84 : decode b_D_extent 84 = .ok (.ireturn, 1) := by decide +kernel
theorem d_D_extent_85 : decode b_D_extent 85 = .ok (.aload_n 0, 1) := by decide +kernel
theorem d_D_extent_86 : decode b_D_extent 86 = .ok (.getfield 48, 3) := by decide +kernel
theorem d_D_extent_89 : decode b_D_extent 89 = .ok (.getfield 126, 3) := by decide +kernel
theorem d_D_extent_92 : decode b_D_extent 92 = .ok (.iload_n 1, 1) := by decide +kernel
theorem d_D_extent_93 : decode b_D_extent 93 = .ok (.iaload, 1) := by decide +kernel
theorem d_D_extent_94 : decode b_D_extent 94 = .ok (.ireturn, 1) := by decide +kernel
theorem d_D_extent_95 : decode b_D_extent 95 = .ok (.new 55, 3) := by decide +kernel
theorem d_D_extent_98 : decode b_D_extent 98 = .ok (.dup, 1) := by decide +kernel
theorem d_D_extent_99 : decode b_D_extent 99 = .ok (.ldc 129, 2) := by decide +kernel
theorem d_D_extent_101 : decode b_D_extent 101 = .ok (.invokespecial 59, 3) := by decide +kernel
theorem d_D_extent_104 : decode b_D_extent 104 = .ok (.athrow, 1) := by decide +kernel
abbrev b_D_count : ByteArray := prog_1_method_14_code
def y_D_count : MethodName := ⟨R_D, "count", "(I)I"⟩
abbrev w_D_count : List Cond := .code y_D_count b_D_count 2 (some .int) :: ew_T
theorem g_D_count : GoodIn ew_T w_D_count := ew_good ew_400
theorem d_D_count_0 : decode b_D_count 0 = .ok (.iload_n 1, 1) := by decide +kernel
theorem d_D_count_1 : decode b_D_count 1 = .ok (.ifCond .lt 8, 3) := by decide +kernel
theorem d_D_count_4 : decode b_D_count 4 = .ok (.iload_n 1, 1) := by decide +kernel
theorem d_D_count_5 : decode b_D_count 5 = .ok (.iconst 3, 1) := by decide +kernel
theorem d_D_count_6 : decode b_D_count 6 = .ok (.if_icmp .le 13, 3) := by decide +kernel
theorem d_D_count_9 : decode b_D_count 9 = .ok (.new 55, 3) := by decide +kernel
theorem d_D_count_12 : decode b_D_count 12 = .ok (.dup, 1) := by decide +kernel
theorem d_D_count_13 : decode b_D_count 13 = .ok (.ldc 129, 2) := by decide +kernel
theorem d_D_count_15 : decode b_D_count 15 = .ok (.invokespecial 59, 3) := by decide +kernel
theorem d_D_count_18 : decode b_D_count 18 = .ok (.athrow, 1) := by decide +kernel
theorem d_D_count_19 : decode b_D_count 19 = .ok (.aload_n 0, 1) := by decide +kernel
theorem d_D_count_20 : decode b_D_count 20 = .ok (.getfield 23, 3) := by decide +kernel
theorem d_D_count_23 : decode b_D_count 23 = .ok (.getfield 62, 3) := by decide +kernel
theorem d_D_count_26 : decode b_D_count 26 = .ok (.ifCond .eq 13, 3) := by decide +kernel
theorem d_D_count_29 : decode b_D_count 29 = .ok (.new 70, 3) := by decide +kernel
theorem d_D_count_32 : decode b_D_count 32 = .ok (.dup, 1) := by decide +kernel
theorem d_D_count_33 : decode b_D_count 33 = .ok (.ldc 86, 2) := by decide +kernel
theorem d_D_count_35 : decode b_D_count 35 = .ok (.invokespecial 74, 3) := by decide +kernel
theorem d_D_count_38 : decode b_D_count 38 = .ok (.athrow, 1) := by decide +kernel
theorem d_D_count_39 : decode b_D_count 39 = .ok (.iload_n 1, 1) := by decide +kernel
theorem d_D_count_40 : decode b_D_count 40 = .ok (.tableswitch 49 0 2 #[28, 36, 41], 28) := by decide +kernel
theorem d_D_count_68 : decode b_D_count 68 = .ok (.aload_n 0, 1) := by decide +kernel
theorem d_D_count_69 : decode b_D_count 69 = .ok (.getfield 48, 3) := by decide +kernel
theorem d_D_count_72 : decode b_D_count 72 = .ok (.getfield 160, 3) := by decide +kernel
theorem d_D_count_75 : decode b_D_count 75 = .ok (.ireturn, 1) := by decide +kernel
theorem d_D_count_76 : decode b_D_count 76 = .ok (.aload_n 0, 1) := by decide +kernel
theorem d_D_count_77 : decode b_D_count 77 = .ok (.invokevirtual 166, 3) := by decide +kernel
theorem d_D_count_80 : decode b_D_count 80 = .ok (.ireturn, 1) := by decide +kernel
theorem d_D_count_81 : decode b_D_count 81 = .ok (.aload_n 0, 1) := by decide +kernel
theorem d_D_count_82 : decode b_D_count 82 = .ok (.getfield 30, 3) := by decide +kernel
theorem d_D_count_85 : decode b_D_count 85 = .ok (.getfield 79, 3) := by decide +kernel
theorem d_D_count_88 : decode b_D_count 88 = .ok (.ireturn, 1) := by decide +kernel
theorem d_D_count_89 : decode b_D_count 89 = .ok (.aload_n 0, 1) := by decide +kernel
theorem d_D_count_90 : decode b_D_count 90 = .ok (.getfield 48, 3) := by decide +kernel
theorem d_D_count_93 : decode b_D_count 93 = .ok (.getfield 148, 3) := by decide +kernel
theorem d_D_count_96 : decode b_D_count 96 = .ok (.ireturn, 1) := by decide +kernel
abbrev b_D_doubled : ByteArray := prog_1_method_15_code
def y_D_doubled : MethodName := ⟨R_D, "doubled", "()I"⟩
abbrev w_D_doubled : List Cond := .code y_D_doubled b_D_doubled 3 (some .int) :: ew_T
theorem g_D_doubled : GoodIn ew_T w_D_doubled := ew_good ew_411
theorem d_D_doubled_0 : decode b_D_doubled 0 = .ok (.aload_n 0, 1) := by decide +kernel
theorem d_D_doubled_1 : decode b_D_doubled 1 = .ok (.getfield 23, 3) := by decide +kernel
theorem d_D_doubled_4 : decode b_D_doubled 4 = .ok (.getfield 62, 3) := by decide +kernel
theorem d_D_doubled_7 : decode b_D_doubled 7 = .ok (.ifCond .eq 13, 3) := by decide +kernel
theorem d_D_doubled_10 : decode b_D_doubled 10 = .ok (.new 70, 3) := by decide +kernel
theorem d_D_doubled_13 : decode b_D_doubled 13 = .ok (.dup, 1) := by decide +kernel
theorem d_D_doubled_14 : decode b_D_doubled 14 = .ok (.ldc 86, 2) := by decide +kernel
theorem d_D_doubled_16 : decode b_D_doubled 16 = .ok (.invokespecial 74, 3) := by decide +kernel
theorem d_D_doubled_19 : decode b_D_doubled 19 = .ok (.athrow, 1) := by decide +kernel
theorem d_D_doubled_20 : decode b_D_doubled 20 = .ok (.aload_n 0, 1) := by decide +kernel
theorem d_D_doubled_21 : decode b_D_doubled 21 = .ok (.getfield 48, 3) := by decide +kernel
theorem d_D_doubled_24 : decode b_D_doubled 24 = .ok (.aload_n 0, 1) := by decide +kernel
theorem d_D_doubled_25 : decode b_D_doubled 25 = .ok (.getfield 42, 3) := by decide +kernel
theorem d_D_doubled_28 : decode b_D_doubled 28 = .ok (.invokevirtual 170, 3) := by decide +kernel
theorem d_D_doubled_31 : decode b_D_doubled 31 = .ok (.iconst 0, 1) := by decide +kernel
theorem d_D_doubled_32 : decode b_D_doubled 32 = .ok (.istore_n 1, 1) := by decide +kernel
theorem d_D_doubled_33 : decode b_D_doubled 33 = .ok (.iconst 0, 1) := by decide +kernel
theorem d_D_doubled_34 : decode b_D_doubled 34 = .ok (.istore_n 2, 1) := by decide +kernel
theorem d_D_doubled_35 : decode b_D_doubled 35 = .ok (.iload_n 2, 1) := by decide +kernel
theorem d_D_doubled_36 : decode b_D_doubled 36 = .ok (.aload_n 0, 1) := by decide +kernel
theorem d_D_doubled_37 : decode b_D_doubled 37 = .ok (.getfield 42, 3) := by decide +kernel
theorem d_D_doubled_40 : decode b_D_doubled 40 = .ok (.arraylength, 1) := by decide +kernel
theorem d_D_doubled_41 : decode b_D_doubled 41 = .ok (.if_icmp .ge 24, 3) := by decide +kernel
theorem d_D_doubled_44 : decode b_D_doubled 44 = .ok (.iload_n 1, 1) := by decide +kernel
theorem d_D_doubled_45 : decode b_D_doubled 45 = .ok (.iconst 0, 1) := by decide +kernel
theorem d_D_doubled_46 : decode b_D_doubled 46 = .ok (.aload_n 0, 1) := by decide +kernel
theorem d_D_doubled_47 : decode b_D_doubled 47 = .ok (.getfield 42, 3) := by decide +kernel
theorem d_D_doubled_50 : decode b_D_doubled 50 = .ok (.iload_n 2, 1) := by decide +kernel
theorem d_D_doubled_51 : decode b_D_doubled 51 = .ok (.iaload, 1) := by decide +kernel
theorem d_D_doubled_52 : decode b_D_doubled 52 = .ok (.iconst 1, 1) := by decide +kernel
theorem d_D_doubled_53 : decode b_D_doubled 53 = .ok (.isub, 1) := by decide +kernel
theorem d_D_doubled_54 : decode b_D_doubled 54 = .ok (.invokestatic 15, 3) := by decide +kernel
theorem d_D_doubled_57 : decode b_D_doubled 57 = .ok (.iadd, 1) := by decide +kernel
theorem d_D_doubled_58 : decode b_D_doubled 58 = .ok (.istore_n 1, 1) := by decide +kernel
theorem d_D_doubled_59 : decode b_D_doubled 59 = .ok (.iinc 2 1, 3) := by decide +kernel
theorem d_D_doubled_62 : decode b_D_doubled 62 = .ok (.goto (-27), 3) := by decide +kernel
theorem d_D_doubled_65 : decode b_D_doubled 65 = .ok (.iload_n 1, 1) := by decide +kernel
theorem d_D_doubled_66 : decode b_D_doubled 66 = .ok (.ireturn, 1) := by decide +kernel
abbrev b_D_recover : ByteArray := prog_1_method_11_code
def y_D_recover : MethodName := ⟨R_D, "recover", "()I"⟩
abbrev w_D_recover : List Cond := .code y_D_recover b_D_recover 1 (some .int) :: ew_T
theorem g_D_recover : GoodIn ew_T w_D_recover := ew_good ew_134
theorem d_D_recover_0 : decode b_D_recover 0 = .ok (.aload_n 0, 1) := by decide +kernel
theorem d_D_recover_1 : decode b_D_recover 1 = .ok (.getfield 23, 3) := by decide +kernel
theorem d_D_recover_4 : decode b_D_recover 4 = .ok (.iconst (-1), 1) := by decide +kernel
theorem d_D_recover_5 : decode b_D_recover 5 = .ok (.invokevirtual 138, 3) := by decide +kernel
theorem d_D_recover_8 : decode b_D_recover 8 = .ok (.aload_n 0, 1) := by decide +kernel
theorem d_D_recover_9 : decode b_D_recover 9 = .ok (.getfield 30, 3) := by decide +kernel
theorem d_D_recover_12 : decode b_D_recover 12 = .ok (.iconst 0, 1) := by decide +kernel
theorem d_D_recover_13 : decode b_D_recover 13 = .ok (.putfield 79, 3) := by decide +kernel
theorem d_D_recover_16 : decode b_D_recover 16 = .ok (.aload_n 0, 1) := by decide +kernel
theorem d_D_recover_17 : decode b_D_recover 17 = .ok (.getfield 48, 3) := by decide +kernel
theorem d_D_recover_20 : decode b_D_recover 20 = .ok (.aload_n 0, 1) := by decide +kernel
theorem d_D_recover_21 : decode b_D_recover 21 = .ok (.getfield 23, 3) := by decide +kernel
theorem d_D_recover_24 : decode b_D_recover 24 = .ok (.iconst 0, 1) := by decide +kernel
theorem d_D_recover_25 : decode b_D_recover 25 = .ok (.invokevirtual 144, 3) := by decide +kernel
theorem d_D_recover_28 : decode b_D_recover 28 = .ok (.aload_n 0, 1) := by decide +kernel
theorem d_D_recover_29 : decode b_D_recover 29 = .ok (.getfield 52, 3) := by decide +kernel
theorem d_D_recover_32 : decode b_D_recover 32 = .ok (.aload_n 0, 1) := by decide +kernel
theorem d_D_recover_33 : decode b_D_recover 33 = .ok (.getfield 23, 3) := by decide +kernel
theorem d_D_recover_36 : decode b_D_recover 36 = .ok (.iconst 1, 1) := by decide +kernel
theorem d_D_recover_37 : decode b_D_recover 37 = .ok (.invokevirtual 144, 3) := by decide +kernel
theorem d_D_recover_40 : decode b_D_recover 40 = .ok (.aload_n 0, 1) := by decide +kernel
theorem d_D_recover_41 : decode b_D_recover 41 = .ok (.getfield 52, 3) := by decide +kernel
theorem d_D_recover_44 : decode b_D_recover 44 = .ok (.getfield 148, 3) := by decide +kernel
theorem d_D_recover_47 : decode b_D_recover 47 = .ok (.aload_n 0, 1) := by decide +kernel
theorem d_D_recover_48 : decode b_D_recover 48 = .ok (.getfield 48, 3) := by decide +kernel
theorem d_D_recover_51 : decode b_D_recover 51 = .ok (.getfield 148, 3) := by decide +kernel
theorem d_D_recover_54 : decode b_D_recover 54 = .ok (.if_icmp .le 7, 3) := by decide +kernel
theorem d_D_recover_57 : decode b_D_recover 57 = .ok (.aload_n 0, 1) := by decide +kernel
theorem d_D_recover_58 : decode b_D_recover 58 = .ok (.invokevirtual 151, 3) := by decide +kernel
theorem d_D_recover_61 : decode b_D_recover 61 = .ok (.aload_n 0, 1) := by decide +kernel
theorem d_D_recover_62 : decode b_D_recover 62 = .ok (.getfield 48, 3) := by decide +kernel
theorem d_D_recover_65 : decode b_D_recover 65 = .ok (.getfield 90, 3) := by decide +kernel
theorem d_D_recover_68 : decode b_D_recover 68 = .ok (.iconst 0, 1) := by decide +kernel
theorem d_D_recover_69 : decode b_D_recover 69 = .ok (.aload_n 0, 1) := by decide +kernel
theorem d_D_recover_70 : decode b_D_recover 70 = .ok (.getfield 34, 3) := by decide +kernel
theorem d_D_recover_73 : decode b_D_recover 73 = .ok (.iconst 0, 1) := by decide +kernel
theorem d_D_recover_74 : decode b_D_recover 74 = .ok (.bipush 24, 2) := by decide +kernel
theorem d_D_recover_76 : decode b_D_recover 76 = .ok (.invokestatic 154, 3) := by decide +kernel
theorem d_D_recover_79 : decode b_D_recover 79 = .ok (.aload_n 0, 1) := by decide +kernel
theorem d_D_recover_80 : decode b_D_recover 80 = .ok (.getfield 48, 3) := by decide +kernel
theorem d_D_recover_83 : decode b_D_recover 83 = .ok (.getfield 160, 3) := by decide +kernel
theorem d_D_recover_86 : decode b_D_recover 86 = .ok (.ireturn, 1) := by decide +kernel
abbrev b_D_change : ByteArray := prog_1_method_7_code
def y_D_change : MethodName := ⟨R_D, "change", "(III)I"⟩
abbrev w_D_change : List Cond := .code y_D_change b_D_change 5 (some .int) :: ew_T
theorem g_D_change : GoodIn ew_T w_D_change := ew_good ew_318
theorem d_D_change_0 : decode b_D_change 0 = .ok (.aload_n 0, 1) := by decide +kernel
theorem d_D_change_1 : decode b_D_change 1 = .ok (.getfield 23, 3) := by decide +kernel
theorem d_D_change_4 : decode b_D_change 4 = .ok (.getfield 62, 3) := by decide +kernel
theorem d_D_change_7 : decode b_D_change 7 = .ok (.ifCond .eq 13, 3) := by decide +kernel
theorem d_D_change_10 : decode b_D_change 10 = .ok (.new 70, 3) := by decide +kernel
theorem d_D_change_13 : decode b_D_change 13 = .ok (.dup, 1) := by decide +kernel
theorem d_D_change_14 : decode b_D_change 14 = .ok (.ldc 86, 2) := by decide +kernel
theorem d_D_change_16 : decode b_D_change 16 = .ok (.invokespecial 74, 3) := by decide +kernel
theorem d_D_change_19 : decode b_D_change 19 = .ok (.athrow, 1) := by decide +kernel
theorem d_D_change_20 : decode b_D_change 20 = .ok (.aload_n 0, 1) := by decide +kernel
theorem d_D_change_21 : decode b_D_change 21 = .ok (.getfield 52, 3) := by decide +kernel
theorem d_D_change_24 : decode b_D_change 24 = .ok (.aload_n 0, 1) := by decide +kernel
theorem d_D_change_25 : decode b_D_change 25 = .ok (.getfield 48, 3) := by decide +kernel
theorem d_D_change_28 : decode b_D_change 28 = .ok (.iload_n 2, 1) := by decide +kernel
theorem d_D_change_29 : decode b_D_change 29 = .ok (.iload_n 3, 1) := by decide +kernel
theorem d_D_change_30 : decode b_D_change 30 = .ok (.invokevirtual 93, 3) := by decide +kernel
theorem d_D_change_33 : decode b_D_change 33 = .ok (.aload_n 0, 1) := by decide +kernel
theorem d_D_change_34 : decode b_D_change 34 = .ok (.getfield 52, 3) := by decide +kernel
theorem d_D_change_37 : decode b_D_change 37 = .ok (.aload_n 0, 1) := by decide +kernel
theorem d_D_change_38 : decode b_D_change 38 = .ok (.getfield 34, 3) := by decide +kernel
theorem d_D_change_41 : decode b_D_change 41 = .ok (.invokevirtual 97, 3) := by decide +kernel
theorem d_D_change_44 : decode b_D_change 44 = .ok (.iconst (-1), 1) := by decide +kernel
theorem d_D_change_45 : decode b_D_change 45 = .ok (.istore 4, 2) := by decide +kernel
theorem d_D_change_47 : decode b_D_change 47 = .ok (.aload_n 0, 1) := by decide +kernel
theorem d_D_change_48 : decode b_D_change 48 = .ok (.getfield 30, 3) := by decide +kernel
theorem d_D_change_51 : decode b_D_change 51 = .ok (.getfield 79, 3) := by decide +kernel
theorem d_D_change_54 : decode b_D_change 54 = .ok (.ifCond .le 48, 3) := by decide +kernel
theorem d_D_change_57 : decode b_D_change 57 = .ok (.aload_n 0, 1) := by decide +kernel
theorem d_D_change_58 : decode b_D_change 58 = .ok (.aload_n 0, 1) := by decide +kernel
theorem d_D_change_59 : decode b_D_change 59 = .ok (.getfield 30, 3) := by decide +kernel
theorem d_D_change_62 : decode b_D_change 62 = .ok (.getfield 79, 3) := by decide +kernel
theorem d_D_change_65 : decode b_D_change 65 = .ok (.invokestatic 101, 3) := by decide +kernel
theorem d_D_change_68 : decode b_D_change 68 = .ok (.invokevirtual 105, 3) := by decide +kernel
theorem d_D_change_71 : decode b_D_change 71 = .ok (.istore 4, 2) := by decide +kernel
theorem d_D_change_73 : decode b_D_change 73 = .ok (.iload 4, 2) := by decide +kernel
theorem d_D_change_75 : decode b_D_change 75 = .ok (.iconst (-1), 1) := by decide +kernel
theorem d_D_change_76 : decode b_D_change 76 = .ok (.if_icmp .eq 23, 3) := by decide +kernel
theorem d_D_change_79 : decode b_D_change 79 = .ok (.aload_n 0, 1) := by decide +kernel
theorem d_D_change_80 : decode b_D_change 80 = .ok (.getfield 52, 3) := by decide +kernel
theorem d_D_change_83 : decode b_D_change 83 = .ok (.iload_n 1, 1) := by decide +kernel
theorem d_D_change_84 : decode b_D_change 84 = .ok (.iload 4, 2) := by decide +kernel
theorem d_D_change_86 : decode b_D_change 86 = .ok (.aload_n 0, 1) := by decide +kernel
theorem d_D_change_87 : decode b_D_change 87 = .ok (.getfield 30, 3) := by decide +kernel
theorem d_D_change_90 : decode b_D_change 90 = .ok (.getfield 79, 3) := by decide +kernel
theorem d_D_change_93 : decode b_D_change 93 = .ok (.invokevirtual 108, 3) := by decide +kernel
theorem d_D_change_96 : decode b_D_change 96 = .ok (.ifCond .ne 6, 3) := by decide +kernel
theorem d_D_change_99 : decode b_D_change 99 = .ok (.bipush (-2), 2) := by decide +kernel
theorem d_D_change_101 : decode b_D_change 101 = .ok (.ireturn, 1) := by decide +kernel
theorem d_D_change_102 : decode b_D_change 102 = .ok (.aload_n 0, 1) := by decide +kernel
theorem d_D_change_103 : decode b_D_change 103 = .ok (.iload 4, 2) := by decide +kernel
theorem d_D_change_105 : decode b_D_change 105 = .ok (.invokevirtual 112, 3) := by decide +kernel
theorem d_D_change_108 : decode b_D_change 108 = .ok (.ireturn, 1) := by decide +kernel
abbrev b_Tp_init : ByteArray := prog_4_method_1_code
def y_Tp_init : MethodName := ⟨R_Tp, "<init>", "(I)V"⟩
abbrev w_Tp_init : List Cond := .code y_Tp_init b_Tp_init 2 none :: ew_T
theorem g_Tp_init : GoodIn ew_T w_Tp_init := ew_good ew_66
theorem d_Tp_init_0 : decode b_Tp_init 0 = .ok (.aload_n 0, 1) := by decide +kernel
theorem d_Tp_init_1 : decode b_Tp_init 1 = .ok (.invokespecial 3, 3) := by decide +kernel
theorem d_Tp_init_4 : decode b_Tp_init 4 = .ok (.aload_n 0, 1) := by decide +kernel
theorem d_Tp_init_5 : decode b_Tp_init 5 = .ok (.iload_n 1, 1) := by decide +kernel
theorem d_Tp_init_6 : decode b_Tp_init 6 = .ok (.sipush 4096, 3) := by decide +kernel
theorem d_Tp_init_9 : decode b_Tp_init 9 = .ok (.imul, 1) := by decide +kernel
theorem d_Tp_init_10 : decode b_Tp_init 10 = .ok (.newarray .byte, 2) := by decide +kernel
theorem d_Tp_init_12 : decode b_Tp_init 12 = .ok (.putfield 9, 3) := by decide +kernel
theorem d_Tp_init_15 : decode b_Tp_init 15 = .ok (.return_, 1) := by decide +kernel
abbrev b_P_init : ByteArray := prog_3_method_1_code
def y_P_init : MethodName := ⟨R_P, "<init>", "(I)V"⟩
abbrev w_P_init : List Cond := .code y_P_init b_P_init 2 none :: ew_T
theorem g_P_init : GoodIn ew_T w_P_init := ew_good ew_44
theorem d_P_init_0 : decode b_P_init 0 = .ok (.aload_n 0, 1) := by decide +kernel
theorem d_P_init_1 : decode b_P_init 1 = .ok (.invokespecial 3, 3) := by decide +kernel
theorem d_P_init_4 : decode b_P_init 4 = .ok (.aload_n 0, 1) := by decide +kernel
theorem d_P_init_5 : decode b_P_init 5 = .ok (.iload_n 1, 1) := by decide +kernel
theorem d_P_init_6 : decode b_P_init 6 = .ok (.sipush 4096, 3) := by decide +kernel
theorem d_P_init_9 : decode b_P_init 9 = .ok (.imul, 1) := by decide +kernel
theorem d_P_init_10 : decode b_P_init 10 = .ok (.newarray .byte, 2) := by decide +kernel
theorem d_P_init_12 : decode b_P_init 12 = .ok (.putfield 9, 3) := by decide +kernel
theorem d_P_init_15 : decode b_P_init 15 = .ok (.aload_n 0, 1) := by decide +kernel
theorem d_P_init_16 : decode b_P_init 16 = .ok (.iconst (-1), 1) := by decide +kernel
theorem d_P_init_17 : decode b_P_init 17 = .ok (.putfield 15, 3) := by decide +kernel
theorem d_P_init_20 : decode b_P_init 20 = .ok (.return_, 1) := by decide +kernel
abbrev b_M_init : ByteArray := prog_2_method_1_code
def y_M_init : MethodName := ⟨R_M, "<init>", "()V"⟩
abbrev w_M_init : List Cond := .code y_M_init b_M_init 1 none :: ew_T
theorem g_M_init : GoodIn ew_T w_M_init := ew_good ew_81
theorem d_M_init_0 : decode b_M_init 0 = .ok (.aload_n 0, 1) := by decide +kernel
theorem d_M_init_1 : decode b_M_init 1 = .ok (.invokespecial 5, 3) := by decide +kernel
theorem d_M_init_4 : decode b_M_init 4 = .ok (.aload_n 0, 1) := by decide +kernel
theorem d_M_init_5 : decode b_M_init 5 = .ok (.sipush 200, 3) := by decide +kernel
theorem d_M_init_8 : decode b_M_init 8 = .ok (.newarray .int, 2) := by decide +kernel
theorem d_M_init_10 : decode b_M_init 10 = .ok (.putfield 11, 3) := by decide +kernel
theorem d_M_init_13 : decode b_M_init 13 = .ok (.aload_n 0, 1) := by decide +kernel
theorem d_M_init_14 : decode b_M_init 14 = .ok (.sipush 200, 3) := by decide +kernel
theorem d_M_init_17 : decode b_M_init 17 = .ok (.newarray .int, 2) := by decide +kernel
theorem d_M_init_19 : decode b_M_init 19 = .ok (.putfield 15, 3) := by decide +kernel
theorem d_M_init_22 : decode b_M_init 22 = .ok (.aload_n 0, 1) := by decide +kernel
theorem d_M_init_23 : decode b_M_init 23 = .ok (.sipush 200, 3) := by decide +kernel
theorem d_M_init_26 : decode b_M_init 26 = .ok (.newarray .int, 2) := by decide +kernel
theorem d_M_init_28 : decode b_M_init 28 = .ok (.putfield 18, 3) := by decide +kernel
theorem d_M_init_31 : decode b_M_init 31 = .ok (.aload_n 0, 1) := by decide +kernel
theorem d_M_init_32 : decode b_M_init 32 = .ok (.bipush 24, 2) := by decide +kernel
theorem d_M_init_34 : decode b_M_init 34 = .ok (.newarray .int, 2) := by decide +kernel
theorem d_M_init_36 : decode b_M_init 36 = .ok (.putfield 21, 3) := by decide +kernel
theorem d_M_init_39 : decode b_M_init 39 = .ok (.return_, 1) := by decide +kernel
abbrev b_D_init : ByteArray := prog_1_method_1_code
def y_D_init : MethodName := ⟨R_D, "<init>", "(I)V"⟩
abbrev w_D_init : List Cond := .code y_D_init b_D_init 3 none :: ew_T
theorem g_D_init : GoodIn ew_T w_D_init := ew_good ew_30
theorem d_D_init_0 : decode b_D_init 0 = .ok (.aload_n 0, 1) := by decide +kernel
theorem d_D_init_1 : decode b_D_init 1 = .ok (.invokespecial 1, 3) := by decide +kernel
theorem d_D_init_4 : decode b_D_init 4 = .ok (.bipush 8, 2) := by decide +kernel
theorem d_D_init_6 : decode b_D_init 6 = .ok (.sipush 128, 3) := by decide +kernel
theorem d_D_init_9 : decode b_D_init 9 = .ok (.iload_n 1, 1) := by decide +kernel
theorem d_D_init_10 : decode b_D_init 10 = .ok (.invokestatic 9, 3) := by decide +kernel
theorem d_D_init_13 : decode b_D_init 13 = .ok (.invokestatic 15, 3) := by decide +kernel
theorem d_D_init_16 : decode b_D_init 16 = .ok (.istore_n 2, 1) := by decide +kernel
theorem d_D_init_17 : decode b_D_init 17 = .ok (.aload_n 0, 1) := by decide +kernel
theorem d_D_init_18 : decode b_D_init 18 = .ok (.new 18, 3) := by decide +kernel
theorem d_D_init_21 : decode b_D_init 21 = .ok (.dup, 1) := by decide +kernel
theorem d_D_init_22 : decode b_D_init 22 = .ok (.iload_n 2, 1) := by decide +kernel
theorem d_D_init_23 : decode b_D_init 23 = .ok (.invokespecial 20, 3) := by decide +kernel
theorem d_D_init_26 : decode b_D_init 26 = .ok (.putfield 23, 3) := by decide +kernel
theorem d_D_init_29 : decode b_D_init 29 = .ok (.aload_n 0, 1) := by decide +kernel
theorem d_D_init_30 : decode b_D_init 30 = .ok (.new 27, 3) := by decide +kernel
theorem d_D_init_33 : decode b_D_init 33 = .ok (.dup, 1) := by decide +kernel
theorem d_D_init_34 : decode b_D_init 34 = .ok (.iload_n 2, 1) := by decide +kernel
theorem d_D_init_35 : decode b_D_init 35 = .ok (.invokespecial 29, 3) := by decide +kernel
theorem d_D_init_38 : decode b_D_init 38 = .ok (.putfield 30, 3) := by decide +kernel
theorem d_D_init_41 : decode b_D_init 41 = .ok (.aload_n 0, 1) := by decide +kernel
theorem d_D_init_42 : decode b_D_init 42 = .ok (.bipush 24, 2) := by decide +kernel
theorem d_D_init_44 : decode b_D_init 44 = .ok (.newarray .int, 2) := by decide +kernel
theorem d_D_init_46 : decode b_D_init 46 = .ok (.putfield 34, 3) := by decide +kernel
theorem d_D_init_49 : decode b_D_init 49 = .ok (.aload_n 0, 1) := by decide +kernel
theorem d_D_init_50 : decode b_D_init 50 = .ok (.sipush 4096, 3) := by decide +kernel
theorem d_D_init_53 : decode b_D_init 53 = .ok (.newarray .byte, 2) := by decide +kernel
theorem d_D_init_55 : decode b_D_init 55 = .ok (.putfield 38, 3) := by decide +kernel
theorem d_D_init_58 : decode b_D_init 58 = .ok (.aload_n 0, 1) := by decide +kernel
theorem d_D_init_59 : decode b_D_init 59 = .ok (.iload_n 2, 1) := by decide +kernel
theorem d_D_init_60 : decode b_D_init 60 = .ok (.newarray .int, 2) := by decide +kernel
theorem d_D_init_62 : decode b_D_init 62 = .ok (.putfield 42, 3) := by decide +kernel
theorem d_D_init_65 : decode b_D_init 65 = .ok (.aload_n 0, 1) := by decide +kernel
theorem d_D_init_66 : decode b_D_init 66 = .ok (.new 45, 3) := by decide +kernel
theorem d_D_init_69 : decode b_D_init 69 = .ok (.dup, 1) := by decide +kernel
theorem d_D_init_70 : decode b_D_init 70 = .ok (.invokespecial 47, 3) := by decide +kernel
theorem d_D_init_73 : decode b_D_init 73 = .ok (.putfield 48, 3) := by decide +kernel
theorem d_D_init_76 : decode b_D_init 76 = .ok (.aload_n 0, 1) := by decide +kernel
theorem d_D_init_77 : decode b_D_init 77 = .ok (.new 45, 3) := by decide +kernel
theorem d_D_init_80 : decode b_D_init 80 = .ok (.dup, 1) := by decide +kernel
theorem d_D_init_81 : decode b_D_init 81 = .ok (.invokespecial 47, 3) := by decide +kernel
theorem d_D_init_84 : decode b_D_init 84 = .ok (.putfield 52, 3) := by decide +kernel
theorem d_D_init_87 : decode b_D_init 87 = .ok (.return_, 1) := by decide +kernel
abbrev b_K_thrown : ByteArray := prog_6_method_2_code
def y_K_thrown : MethodName := ⟨R_K, "thrown", "()I"⟩
abbrev w_K_thrown : List Cond := .code y_K_thrown b_K_thrown 1 (some .int) :: ew_T
theorem g_K_thrown : GoodIn ew_T w_K_thrown := ew_good ew_475
theorem d_K_thrown_0 : decode b_K_thrown 0 = .ok (.aload_n 0, 1) := by decide +kernel
theorem d_K_thrown_1 : decode b_K_thrown 1 = .ok (.getfield 47, 3) := by decide +kernel
theorem d_K_thrown_4 : decode b_K_thrown 4 = .ok (.ireturn, 1) := by decide +kernel
abbrev b_K_isDown : ByteArray := prog_6_method_19_code
def y_K_isDown : MethodName := ⟨R_K, "isDown", "()Z"⟩
abbrev w_K_isDown : List Cond := .code y_K_isDown b_K_isDown 1 (some .boolean) :: ew_T
theorem g_K_isDown : GoodIn ew_T w_K_isDown := ew_good ew_544
theorem d_K_isDown_0 : decode b_K_isDown 0 = .ok (.aload_n 0, 1) := by decide +kernel
theorem d_K_isDown_1 : decode b_K_isDown 1 = .ok (.iconst 0, 1) := by decide +kernel
theorem d_K_isDown_2 : decode b_K_isDown 2 = .ok (.putfield 47, 3) := by decide +kernel
theorem d_K_isDown_5 : decode b_K_isDown 5 = .ok (.aload_n 0, 1) := by decide +kernel
theorem d_K_isDown_6 : decode b_K_isDown 6 = .ok (.getfield 50, 3) := by decide +kernel
theorem d_K_isDown_9 : decode b_K_isDown 9 = .ok (.ireturn, 1) := by decide +kernel
abbrev b_K_writes : ByteArray := prog_6_method_20_code
def y_K_writes : MethodName := ⟨R_K, "writes", "()I"⟩
abbrev w_K_writes : List Cond := .code y_K_writes b_K_writes 1 (some .int) :: ew_T
theorem g_K_writes : GoodIn ew_T w_K_writes := ew_good ew_548
theorem d_K_writes_0 : decode b_K_writes 0 = .ok (.aload_n 0, 1) := by decide +kernel
theorem d_K_writes_1 : decode b_K_writes 1 = .ok (.iconst 0, 1) := by decide +kernel
theorem d_K_writes_2 : decode b_K_writes 2 = .ok (.putfield 47, 3) := by decide +kernel
theorem d_K_writes_5 : decode b_K_writes 5 = .ok (.aload_n 0, 1) := by decide +kernel
theorem d_K_writes_6 : decode b_K_writes 6 = .ok (.getfield 75, 3) := by decide +kernel
theorem d_K_writes_9 : decode b_K_writes 9 = .ok (.ireturn, 1) := by decide +kernel
abbrev b_K_drop : ByteArray := prog_6_method_5_code
def y_K_drop : MethodName := ⟨R_K, "drop", "()I"⟩
abbrev w_K_drop : List Cond := .code y_K_drop b_K_drop 2 (some .int) :: ew_T
theorem g_K_drop : GoodIn ew_T w_K_drop := ew_good ew_488
theorem d_K_drop_0 : decode b_K_drop 0 = .ok (.aload_n 0, 1) := by decide +kernel
theorem d_K_drop_1 : decode b_K_drop 1 = .ok (.aload_n 0, 1) := by decide +kernel
theorem d_K_drop_2 : decode b_K_drop 2 = .ok (.getfield 50, 3) := by decide +kernel
theorem d_K_drop_5 : decode b_K_drop 5 = .ok (.ifCond .eq 7, 3) := by decide +kernel
theorem d_K_drop_8 : decode b_K_drop 8 = .ok (.iconst 1, 1) := by decide +kernel
theorem d_K_drop_9 : decode b_K_drop 9 = .ok (.goto 4, 3) := by decide +kernel
theorem d_K_drop_12 : decode b_K_drop 12 = .ok (.iconst 0, 1) := by decide +kernel
theorem d_K_drop_13 : decode b_K_drop 13 = .ok (.putfield 47, 3) := by decide +kernel
theorem d_K_drop_16 : decode b_K_drop 16 = .ok (.aload_n 0, 1) := by decide +kernel
theorem d_K_drop_17 : decode b_K_drop 17 = .ok (.getfield 47, 3) := by decide +kernel
theorem d_K_drop_20 : decode b_K_drop 20 = .ok (.ifCond .le 5, 3) := by decide +kernel
theorem d_K_drop_23 : decode b_K_drop 23 = .ok (.iconst 0, 1) := by decide +kernel
theorem d_K_drop_24 : decode b_K_drop 24 = .ok (.ireturn, 1) := by decide +kernel
theorem d_K_drop_25 : decode b_K_drop 25 = .ok (.aload_n 0, 1) := by decide +kernel
theorem d_K_drop_26 : decode b_K_drop 26 = .ok (.getfield 54, 3) := by decide +kernel
theorem d_K_drop_29 : decode b_K_drop 29 = .ok (.istore_n 1, 1) := by decide +kernel
theorem d_K_drop_30 : decode b_K_drop 30 = .ok (.aload_n 0, 1) := by decide +kernel
theorem d_K_drop_31 : decode b_K_drop 31 = .ok (.iconst 0, 1) := by decide +kernel
theorem d_K_drop_32 : decode b_K_drop 32 = .ok (.putfield 54, 3) := by decide +kernel
theorem d_K_drop_35 : decode b_K_drop 35 = .ok (.iload_n 1, 1) := by decide +kernel
theorem d_K_drop_36 : decode b_K_drop 36 = .ok (.ireturn, 1) := by decide +kernel
abbrev b_K_wish : ByteArray := prog_6_method_6_code
def y_K_wish : MethodName := ⟨R_K, "wish", "(II)I"⟩
abbrev w_K_wish : List Cond := .code y_K_wish b_K_wish 4 (some .int) :: ew_T
theorem g_K_wish : GoodIn ew_T w_K_wish := ew_good ew_492
theorem d_K_wish_0 : decode b_K_wish 0 = .ok (.aload_n 0, 1) := by decide +kernel
theorem d_K_wish_1 : decode b_K_wish 1 = .ok (.iload_n 1, 1) := by decide +kernel
theorem d_K_wish_2 : decode b_K_wish 2 = .ok (.ifCond .lt 9, 3) := by decide +kernel
theorem d_K_wish_5 : decode b_K_wish 5 = .ok (.iload_n 1, 1) := by decide +kernel
theorem d_K_wish_6 : decode b_K_wish 6 = .ok (.bipush 23, 2) := by decide +kernel
theorem d_K_wish_8 : decode b_K_wish 8 = .ok (.if_icmp .le 7, 3) := by decide +kernel
theorem d_K_wish_11 : decode b_K_wish 11 = .ok (.iconst 1, 1) := by decide +kernel
theorem d_K_wish_12 : decode b_K_wish 12 = .ok (.goto 15, 3) := by decide +kernel
theorem d_K_wish_15 : decode b_K_wish 15 = .ok (.aload_n 0, 1) := by decide +kernel
theorem d_K_wish_16 : decode b_K_wish 16 = .ok (.getfield 50, 3) := by decide +kernel
theorem d_K_wish_19 : decode b_K_wish 19 = .ok (.ifCond .eq 7, 3) := by decide +kernel
theorem d_K_wish_22 : decode b_K_wish 22 = .ok (.iconst 2, 1) := by decide +kernel
theorem d_K_wish_23 : decode b_K_wish 23 = .ok (.goto 4, 3) := by decide +kernel
theorem d_K_wish_26 : decode b_K_wish 26 = .ok (.iconst 0, 1) := by decide +kernel
theorem d_K_wish_27 : decode b_K_wish 27 = .ok (.putfield 47, 3) := by decide +kernel
theorem d_K_wish_30 : decode b_K_wish 30 = .ok (.aload_n 0, 1) := by decide +kernel
theorem d_K_wish_31 : decode b_K_wish 31 = .ok (.getfield 47, 3) := by decide +kernel
theorem d_K_wish_34 : decode b_K_wish 34 = .ok (.ifCond .le 5, 3) := by decide +kernel
theorem d_K_wish_37 : decode b_K_wish 37 = .ok (.iconst 0, 1) := by decide +kernel
theorem d_K_wish_38 : decode b_K_wish 38 = .ok (.ireturn, 1) := by decide +kernel
theorem d_K_wish_39 : decode b_K_wish 39 = .ok (.aload_n 0, 1) := by decide +kernel
theorem d_K_wish_40 : decode b_K_wish 40 = .ok (.getfield 38, 3) := by decide +kernel
theorem d_K_wish_43 : decode b_K_wish 43 = .ok (.iload_n 1, 1) := by decide +kernel
theorem d_K_wish_44 : decode b_K_wish 44 = .ok (.iaload, 1) := by decide +kernel
theorem d_K_wish_45 : decode b_K_wish 45 = .ok (.istore_n 3, 1) := by decide +kernel
theorem d_K_wish_46 : decode b_K_wish 46 = .ok (.aload_n 0, 1) := by decide +kernel
theorem d_K_wish_47 : decode b_K_wish 47 = .ok (.getfield 38, 3) := by decide +kernel
theorem d_K_wish_50 : decode b_K_wish 50 = .ok (.iload_n 1, 1) := by decide +kernel
theorem d_K_wish_51 : decode b_K_wish 51 = .ok (.iload_n 2, 1) := by decide +kernel
theorem d_K_wish_52 : decode b_K_wish 52 = .ok (.iastore, 1) := by decide +kernel
theorem d_K_wish_53 : decode b_K_wish 53 = .ok (.iload_n 3, 1) := by decide +kernel
theorem d_K_wish_54 : decode b_K_wish 54 = .ok (.ireturn, 1) := by decide +kernel
abbrev b_K_note : ByteArray := prog_6_method_7_code
def y_K_note : MethodName := ⟨R_K, "note", "(I)I"⟩
abbrev w_K_note : List Cond := .code y_K_note b_K_note 2 (some .int) :: ew_T
theorem g_K_note : GoodIn ew_T w_K_note := ew_good ew_496
theorem d_K_note_0 : decode b_K_note 0 = .ok (.aload_n 0, 1) := by decide +kernel
theorem d_K_note_1 : decode b_K_note 1 = .ok (.iload_n 1, 1) := by decide +kernel
theorem d_K_note_2 : decode b_K_note 2 = .ok (.ifCond .lt 9, 3) := by decide +kernel
theorem d_K_note_5 : decode b_K_note 5 = .ok (.iload_n 1, 1) := by decide +kernel
theorem d_K_note_6 : decode b_K_note 6 = .ok (.bipush 23, 2) := by decide +kernel
theorem d_K_note_8 : decode b_K_note 8 = .ok (.if_icmp .le 7, 3) := by decide +kernel
theorem d_K_note_11 : decode b_K_note 11 = .ok (.iconst 1, 1) := by decide +kernel
theorem d_K_note_12 : decode b_K_note 12 = .ok (.goto 15, 3) := by decide +kernel
theorem d_K_note_15 : decode b_K_note 15 = .ok (.aload_n 0, 1) := by decide +kernel
theorem d_K_note_16 : decode b_K_note 16 = .ok (.getfield 50, 3) := by decide +kernel
theorem d_K_note_19 : decode b_K_note 19 = .ok (.ifCond .eq 7, 3) := by decide +kernel
theorem d_K_note_22 : decode b_K_note 22 = .ok (.iconst 2, 1) := by decide +kernel
theorem d_K_note_23 : decode b_K_note 23 = .ok (.goto 4, 3) := by decide +kernel
theorem d_K_note_26 : decode b_K_note 26 = .ok (.iconst 0, 1) := by decide +kernel
theorem d_K_note_27 : decode b_K_note 27 = .ok (.putfield 47, 3) := by decide +kernel
theorem d_K_note_30 : decode b_K_note 30 = .ok (.aload_n 0, 1) := by decide +kernel
theorem d_K_note_31 : decode b_K_note 31 = .ok (.getfield 47, 3) := by decide +kernel
theorem d_K_note_34 : decode b_K_note 34 = .ok (.ifCond .le 7, 3) := by decide +kernel
theorem d_K_note_37 : decode b_K_note 37 = .ok (.iconst 0, 1) := by decide +kernel
theorem d_K_note_38 : decode b_K_note 38 = .ok (.goto 9, 3) := by decide +kernel
theorem d_K_note_41 : decode b_K_note 41 = .ok (.aload_n 0, 1) := by decide +kernel
theorem d_K_note_42 : decode b_K_note 42 = .ok (.getfield 26, 3) := by decide +kernel
theorem d_K_note_45 : decode b_K_note 45 = .ok (.iload_n 1, 1) := by decide +kernel
theorem d_K_note_46 : decode b_K_note 46 = .ok (.iaload, 1) := by decide +kernel
theorem d_K_note_47 : decode b_K_note 47 = .ok (.ireturn, 1) := by decide +kernel
abbrev b_K_put : ByteArray := prog_6_method_3_code
def y_K_put : MethodName := ⟨R_K, "put", "(JI)I"⟩
abbrev w_K_put : List Cond := .code y_K_put b_K_put 5 (some .int) :: ew_T
theorem g_K_put : GoodIn ew_T w_K_put := ew_good ew_479
theorem d_K_put_0 : decode b_K_put 0 = .ok (.aload_n 0, 1) := by decide +kernel
theorem d_K_put_1 : decode b_K_put 1 = .ok (.iload_n 3, 1) := by decide +kernel
theorem d_K_put_2 : decode b_K_put 2 = .ok (.iconst 1, 1) := by decide +kernel
theorem d_K_put_3 : decode b_K_put 3 = .ok (.if_icmp .lt 9, 3) := by decide +kernel
theorem d_K_put_6 : decode b_K_put 6 = .ok (.iload_n 3, 1) := by decide +kernel
theorem d_K_put_7 : decode b_K_put 7 = .ok (.bipush 8, 2) := by decide +kernel
theorem d_K_put_9 : decode b_K_put 9 = .ok (.if_icmp .le 7, 3) := by decide +kernel
theorem d_K_put_12 : decode b_K_put 12 = .ok (.iconst 1, 1) := by decide +kernel
theorem d_K_put_13 : decode b_K_put 13 = .ok (.goto 32, 3) := by decide +kernel
theorem d_K_put_16 : decode b_K_put 16 = .ok (.aload_n 0, 1) := by decide +kernel
theorem d_K_put_17 : decode b_K_put 17 = .ok (.getfield 50, 3) := by decide +kernel
theorem d_K_put_20 : decode b_K_put 20 = .ok (.ifCond .ne 20, 3) := by decide +kernel
theorem d_K_put_23 : decode b_K_put 23 = .ok (.aload_n 0, 1) := by decide +kernel
theorem d_K_put_24 : decode b_K_put 24 = .ok (.getfield 54, 3) := by decide +kernel
theorem d_K_put_27 : decode b_K_put 27 = .ok (.iload_n 3, 1) := by decide +kernel
theorem d_K_put_28 : decode b_K_put 28 = .ok (.iadd, 1) := by decide +kernel
theorem d_K_put_29 : decode b_K_put 29 = .ok (.sipush 4096, 3) := by decide +kernel
theorem d_K_put_32 : decode b_K_put 32 = .ok (.aload_n 0, 1) := by decide +kernel
theorem d_K_put_33 : decode b_K_put 33 = .ok (.getfield 44, 3) := by decide +kernel
theorem d_K_put_36 : decode b_K_put 36 = .ok (.imul, 1) := by decide +kernel
theorem d_K_put_37 : decode b_K_put 37 = .ok (.if_icmp .le 7, 3) := by decide +kernel
theorem d_K_put_40 : decode b_K_put 40 = .ok (.iconst 2, 1) := by decide +kernel
theorem d_K_put_41 : decode b_K_put 41 = .ok (.goto 4, 3) := by decide +kernel
theorem d_K_put_44 : decode b_K_put 44 = .ok (.iconst 0, 1) := by decide +kernel
theorem d_K_put_45 : decode b_K_put 45 = .ok (.putfield 47, 3) := by decide +kernel
theorem d_K_put_48 : decode b_K_put 48 = .ok (.aload_n 0, 1) := by decide +kernel
theorem d_K_put_49 : decode b_K_put 49 = .ok (.getfield 47, 3) := by decide +kernel
theorem d_K_put_52 : decode b_K_put 52 = .ok (.ifCond .le 5, 3) := by decide +kernel
theorem d_K_put_55 : decode b_K_put 55 = .ok (.iconst 0, 1) := by decide +kernel
theorem d_K_put_56 : decode b_K_put 56 = .ok (.ireturn, 1) := by decide +kernel
theorem d_K_put_57 : decode b_K_put 57 = .ok (.iload_n 3, 1) := by decide +kernel
theorem d_K_put_58 : decode b_K_put 58 = .ok (.iconst 1, 1) := by decide +kernel
theorem d_K_put_59 : decode b_K_put 59 = .ok (.isub, 1) := by decide +kernel
theorem d_K_put_60 : decode b_K_put 60 = .ok (.istore 4, 2) := by decide +kernel
theorem d_K_put_62 : decode b_K_put 62 = .ok (.iload 4, 2) := by decide +kernel
theorem d_K_put_64 : decode b_K_put 64 = .ok (.ifCond .lt 37, 3) := by decide +kernel
theorem d_K_put_67 : decode b_K_put 67 = .ok (.aload_n 0, 1) := by decide +kernel
theorem d_K_put_68 : decode b_K_put 68 = .ok (.getfield 41, 3) := by decide +kernel
theorem d_K_put_71 : decode b_K_put 71 = .ok (.aload_n 0, 1) := by decide +kernel
theorem d_K_put_72 : decode b_K_put 72 = .ok (.getfield 54, 3) := by decide +kernel
theorem d_K_put_75 : decode b_K_put 75 = .ok (.lload_n 1, 1) := by decide +kernel
theorem d_K_put_76 : decode b_K_put 76 = .ok (.bipush 8, 2) := by decide +kernel
theorem d_K_put_78 : decode b_K_put 78 = .ok (.iload 4, 2) := by decide +kernel
theorem d_K_put_80 : decode b_K_put 80 = .ok (.imul, 1) := by decide +kernel
theorem d_K_put_81 : decode b_K_put 81 = .ok (.lshr, 1) := by decide +kernel
theorem d_K_put_82 : decode b_K_put 82 = .ok (.l2i, 1) := by decide +kernel
theorem d_K_put_83 : decode b_K_put 83 = .ok (.i2b, 1) := by decide +kernel
theorem d_K_put_84 : decode b_K_put 84 = .ok (.bastore, 1) := by decide +kernel
theorem d_K_put_85 : decode b_K_put 85 = .ok (.aload_n 0, 1) := by decide +kernel
theorem d_K_put_86 : decode b_K_put 86 = .ok (.dup, 1) := by decide +kernel
theorem d_K_put_87 : decode b_K_put 87 = .ok (.getfield 54, 3) := by decide +kernel
theorem d_K_put_90 : decode b_K_put 90 = .ok (.iconst 1, 1) := by decide +kernel
theorem d_K_put_91 : decode b_K_put 91 = .ok (.iadd, 1) := by decide +kernel
theorem d_K_put_92 : decode b_K_put 92 = .ok (.putfield 54, 3) := by decide +kernel
theorem d_K_put_95 : decode b_K_put 95 = .ok (.iinc 4 (-1), 3) := by decide +kernel
theorem d_K_put_98 : decode b_K_put 98 = .ok (.goto (-36), 3) := by decide +kernel
theorem d_K_put_101 : decode b_K_put 101 = .ok (.aload_n 0, 1) := by decide +kernel
theorem d_K_put_102 : decode b_K_put 102 = .ok (.getfield 54, 3) := by decide +kernel
theorem d_K_put_105 : decode b_K_put 105 = .ok (.ireturn, 1) := by decide +kernel
abbrev b_K_fill : ByteArray := prog_6_method_4_code
def y_K_fill : MethodName := ⟨R_K, "fill", "(II)I"⟩
abbrev w_K_fill : List Cond := .code y_K_fill b_K_fill 4 (some .int) :: ew_T
theorem g_K_fill : GoodIn ew_T w_K_fill := ew_good ew_483
theorem d_K_fill_0 : decode b_K_fill 0 = .ok (.aload_n 0, 1) := by decide +kernel
theorem d_K_fill_1 : decode b_K_fill 1 = .ok (.iload_n 2, 1) := by decide +kernel
theorem d_K_fill_2 : decode b_K_fill 2 = .ok (.iconst 1, 1) := by decide +kernel
theorem d_K_fill_3 : decode b_K_fill 3 = .ok (.if_icmp .lt 9, 3) := by decide +kernel
theorem d_K_fill_6 : decode b_K_fill 6 = .ok (.iload_n 2, 1) := by decide +kernel
theorem d_K_fill_7 : decode b_K_fill 7 = .ok (.ldc 57, 2) := by decide +kernel
theorem d_K_fill_9 : decode b_K_fill 9 = .ok (.if_icmp .le 7, 3) := by decide +kernel
theorem d_K_fill_12 : decode b_K_fill 12 = .ok (.iconst 1, 1) := by decide +kernel
theorem d_K_fill_13 : decode b_K_fill 13 = .ok (.goto 32, 3) := by decide +kernel
theorem d_K_fill_16 : decode b_K_fill 16 = .ok (.aload_n 0, 1) := by decide +kernel
theorem d_K_fill_17 : decode b_K_fill 17 = .ok (.getfield 50, 3) := by decide +kernel
theorem d_K_fill_20 : decode b_K_fill 20 = .ok (.ifCond .ne 20, 3) := by decide +kernel
theorem d_K_fill_23 : decode b_K_fill 23 = .ok (.aload_n 0, 1) := by decide +kernel
theorem d_K_fill_24 : decode b_K_fill 24 = .ok (.getfield 54, 3) := by decide +kernel
theorem d_K_fill_27 : decode b_K_fill 27 = .ok (.iload_n 2, 1) := by decide +kernel
theorem d_K_fill_28 : decode b_K_fill 28 = .ok (.iadd, 1) := by decide +kernel
theorem d_K_fill_29 : decode b_K_fill 29 = .ok (.sipush 4096, 3) := by decide +kernel
theorem d_K_fill_32 : decode b_K_fill 32 = .ok (.aload_n 0, 1) := by decide +kernel
theorem d_K_fill_33 : decode b_K_fill 33 = .ok (.getfield 44, 3) := by decide +kernel
theorem d_K_fill_36 : decode b_K_fill 36 = .ok (.imul, 1) := by decide +kernel
theorem d_K_fill_37 : decode b_K_fill 37 = .ok (.if_icmp .le 7, 3) := by decide +kernel
theorem d_K_fill_40 : decode b_K_fill 40 = .ok (.iconst 2, 1) := by decide +kernel
theorem d_K_fill_41 : decode b_K_fill 41 = .ok (.goto 4, 3) := by decide +kernel
theorem d_K_fill_44 : decode b_K_fill 44 = .ok (.iconst 0, 1) := by decide +kernel
theorem d_K_fill_45 : decode b_K_fill 45 = .ok (.putfield 47, 3) := by decide +kernel
theorem d_K_fill_48 : decode b_K_fill 48 = .ok (.aload_n 0, 1) := by decide +kernel
theorem d_K_fill_49 : decode b_K_fill 49 = .ok (.getfield 47, 3) := by decide +kernel
theorem d_K_fill_52 : decode b_K_fill 52 = .ok (.ifCond .le 5, 3) := by decide +kernel
theorem d_K_fill_55 : decode b_K_fill 55 = .ok (.iconst 0, 1) := by decide +kernel
theorem d_K_fill_56 : decode b_K_fill 56 = .ok (.ireturn, 1) := by decide +kernel
theorem d_K_fill_57 : decode b_K_fill 57 = .ok (.iconst 0, 1) := by decide +kernel
theorem d_K_fill_58 : decode b_K_fill 58 = .ok (.istore_n 3, 1) := by decide +kernel
theorem d_K_fill_59 : decode b_K_fill 59 = .ok (.iload_n 3, 1) := by decide +kernel
theorem d_K_fill_60 : decode b_K_fill 60 = .ok (.iload_n 2, 1) := by decide +kernel
theorem d_K_fill_61 : decode b_K_fill 61 = .ok (.if_icmp .ge 32, 3) := by decide +kernel
theorem d_K_fill_64 : decode b_K_fill 64 = .ok (.aload_n 0, 1) := by decide +kernel
theorem d_K_fill_65 : decode b_K_fill 65 = .ok (.getfield 41, 3) := by decide +kernel
theorem d_K_fill_68 : decode b_K_fill 68 = .ok (.aload_n 0, 1) := by decide +kernel
theorem d_K_fill_69 : decode b_K_fill 69 = .ok (.getfield 54, 3) := by decide +kernel
theorem d_K_fill_72 : decode b_K_fill 72 = .ok (.iload_n 1, 1) := by decide +kernel
theorem d_K_fill_73 : decode b_K_fill 73 = .ok (.iload_n 3, 1) := by decide +kernel
theorem d_K_fill_74 : decode b_K_fill 74 = .ok (.iadd, 1) := by decide +kernel
theorem d_K_fill_75 : decode b_K_fill 75 = .ok (.i2b, 1) := by decide +kernel
theorem d_K_fill_76 : decode b_K_fill 76 = .ok (.bastore, 1) := by decide +kernel
theorem d_K_fill_77 : decode b_K_fill 77 = .ok (.aload_n 0, 1) := by decide +kernel
theorem d_K_fill_78 : decode b_K_fill 78 = .ok (.dup, 1) := by decide +kernel
theorem d_K_fill_79 : decode b_K_fill 79 = .ok (.getfield 54, 3) := by decide +kernel
theorem d_K_fill_82 : decode b_K_fill 82 = .ok (.iconst 1, 1) := by decide +kernel
theorem d_K_fill_83 : decode b_K_fill 83 = .ok (.iadd, 1) := by decide +kernel
theorem d_K_fill_84 : decode b_K_fill 84 = .ok (.putfield 54, 3) := by decide +kernel
theorem d_K_fill_87 : decode b_K_fill 87 = .ok (.iinc 3 1, 3) := by decide +kernel
theorem d_K_fill_90 : decode b_K_fill 90 = .ok (.goto (-31), 3) := by decide +kernel
theorem d_K_fill_93 : decode b_K_fill 93 = .ok (.aload_n 0, 1) := by decide +kernel
theorem d_K_fill_94 : decode b_K_fill 94 = .ok (.getfield 54, 3) := by decide +kernel
theorem d_K_fill_97 : decode b_K_fill 97 = .ok (.ireturn, 1) := by decide +kernel
