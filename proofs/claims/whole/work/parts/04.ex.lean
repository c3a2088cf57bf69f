/-! words that are no good words, and the texts: one bundle for all methods -/
abbrev ex_n1 : Cond := .methodLinkNest "ExtentDisk" 47 ⟨"ExtentDisk$Manifest", "<init>", "()V"⟩ "ExtentDisk"
abbrev ex_n2 : Cond := .methodLinkNest "ExtentDisk$Manifest" 44 ⟨"ExtentDisk", "blocksFor", "(I)I"⟩ "ExtentDisk"
abbrev ex_cA : Cond := .castable "java/lang/IllegalArgumentException" "java/lang/IllegalArgumentException"
abbrev ex_cS : Cond := .castable "java/lang/IllegalStateException" "java/lang/IllegalStateException"
abbrev ex_dR : Cond := .declares ⟨"java/lang/RuntimeException", "<init>", "(Ljava/lang/String;)V"⟩
abbrev ex_dE : Cond := .declares ⟨"java/lang/Exception", "<init>", "(Ljava/lang/String;)V"⟩
abbrev ex_dT : Cond := .declares ⟨"java/lang/Throwable", "<init>", "(Ljava/lang/String;)V"⟩
def ex_strs : List (Nat × String) := [(57, "n is not 1 .. 8"), (72, "the store is down, or the tape has no room"), (84, "n is not 1 .. 100000"), (86, "the store is down"), (88, "i is not 0 .. 23"), (118, "there is no such extent"), (129, "what is not 0 .. 3"), (131, "there is no such byte"), (136, "n is not NONE .. 1000")]
def ex_G (U : State) : Prop := va_Nw ex_n1 U ∧ va_Nw ex_n2 U ∧ va_Nw ex_cA U ∧ va_Nw ex_cS U ∧ va_Nw ex_dR U ∧ va_Nw ex_dE U ∧ va_Nw ex_dT U ∧ ∀ q ∈ ex_strs, ∃ a : Nat, vk_R "ExtentDisk" q.1 q.2 a U
theorem ex_G.warm {s U : State} (hW : s.WarmedH U.vm) (h : ex_G s) : ex_G U := by
  obtain ⟨h1, h2, h3, h4, h5, h6, h7, h8⟩ := h
  exact ⟨va_Nw.warmM hW h1, va_Nw.warmM hW h2, va_Nw.warmC hW h3, va_Nw.warmC hW h4, va_Nw.warmD hW h5, va_Nw.warmD hW h6, va_Nw.warmD hW h7, fun q hq => by
    obtain ⟨a, ha⟩ := h8 q hq
    exact ⟨a, vk_R.warm hW ha⟩⟩
theorem ex_G.same {u U : State} (hv : U.vm = u.vm) (h : ex_G u) : ex_G U := by
  obtain ⟨h1, h2, h3, h4, h5, h6, h7, h8⟩ := h
  exact ⟨va_Nw.same rfl hv.symm h1, va_Nw.same rfl hv.symm h2, va_Nw.same rfl hv.symm h3, va_Nw.same rfl hv.symm h4, va_Nw.same rfl hv.symm h5, va_Nw.same rfl hv.symm h6, va_Nw.same rfl hv.symm h7, fun q hq => by
    obtain ⟨a, ha⟩ := h8 q hq
    exact ⟨a, vk_R.same hv ha⟩⟩
theorem ex_nest_R_D_47 {s : State} (h : ex_G s) : va_Nw (.methodLinkNest R_D 47 y_M_init "ExtentDisk") s := h.1
theorem ex_nest_R_M_44 {s : State} (h : ex_G s) : va_Nw (.methodLinkNest R_M 44 y_D_blocksFor "ExtentDisk") s := h.2.1
theorem ex_str {s : State} (h : ex_G s) {k : Nat} {t : String} (hk : (k, t) ∈ ex_strs) : ∃ a : Nat, vk_R R_D k t a s := h.2.2.2.2.2.2.2 (k, t) hk
abbrev ex_atA : List Cond := vx_atS R_D 59 "java/lang/IllegalArgumentException" ["java/lang/RuntimeException", "java/lang/Exception"]
abbrev ex_atI : List Cond := vx_atS R_D 74 "java/lang/IllegalStateException" ["java/lang/RuntimeException", "java/lang/Exception"]
theorem ex_inA : ∀ w ∈ ex_atA.filter goodWord, w ∈ ew_T := by decide +kernel
theorem ex_inI : ∀ w ∈ ex_atI.filter goodWord, w ∈ ew_T := by decide +kernel
theorem ex_hatA {args : Array Value} {s : State} (hG : ex_G s) (hts : ∀ w ∈ ew_T, w.before args s = true) : ∀ w ∈ ex_atA, w.before args s = true :=
  vx_hat (L := ex_atA) (B := [ex_cA, ex_dR, ex_dE, ex_dT]) (fun w hw => hts w (ex_inA w hw)) (by decide +kernel) (vx_c (va_Nw.use rfl hG.2.2.1) (vx_c (va_Nw.use rfl hG.2.2.2.2.1) (vx_c (va_Nw.use rfl hG.2.2.2.2.2.1) (vx_c (va_Nw.use rfl hG.2.2.2.2.2.2.1) vx_n))))
theorem ex_hatS {args : Array Value} {s : State} (hG : ex_G s) (hts : ∀ w ∈ ew_T, w.before args s = true) : ∀ w ∈ ex_atI, w.before args s = true :=
  vx_hat (L := ex_atI) (B := [ex_cS, ex_dR, ex_dE, ex_dT]) (fun w hw => hts w (ex_inI w hw)) (by decide +kernel) (vx_c (va_Nw.use rfl hG.2.2.2.1) (vx_c (va_Nw.use rfl hG.2.2.2.2.1) (vx_c (va_Nw.use rfl hG.2.2.2.2.2.1) (vx_c (va_Nw.use rfl hG.2.2.2.2.2.2.1) vx_n))))
theorem ex_goodA : ∀ w ∈ Cond.classLink R_D 55 "java/lang/IllegalArgumentException" :: Cond.initialized "java/lang/IllegalArgumentException" :: ex_atA, vx_ot w = true := by decide +kernel
theorem ex_goodS : ∀ w ∈ Cond.classLink R_D 70 "java/lang/IllegalStateException" :: Cond.initialized "java/lang/IllegalStateException" :: ex_atI, vx_ot w = true := by decide +kernel
