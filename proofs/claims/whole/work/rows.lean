section
-- ===== PART A: goes FIRST, ahead of the names: the tables' words, and 'selects' of the private methods out of them =====
/-- a private method of a class that the tables say can be made, by its rows of tables_1 -/
def lw_okq (q : MethodName × Nat) : Prop := (q.1.cls ≠ "java/lang/invoke/MethodHandle" ∧ q.1.cls ≠ "java/lang/invoke/VarHandle") ∧ Cond.instantiable q.1.cls q.2 ∈ tables_1 ∧ Cond.privateMethod q.1 ∈ tables_1 ∧ Cond.instanceMethod q.1 ∈ tables_1
theorem lw_p0 : lw_okq (⟨"ExtentDisk", "makeNextCount", "()V"⟩, 7) := ⟨⟨by decide +kernel, by decide +kernel⟩, List.mem_of_getElem? (i := 15) (by decide +kernel), List.mem_of_getElem? (i := 152) (by decide +kernel), List.mem_of_getElem? (i := 153) (by decide +kernel)⟩
theorem lw_p1 : lw_okq (⟨"java/lang/Throwable", "fillInStackTrace", "(I)Ljava/lang/Throwable;"⟩, 6) := ⟨⟨by decide +kernel, by decide +kernel⟩, List.mem_of_getElem? (i := 216) (by decide +kernel), List.mem_of_getElem? (i := 214) (by decide +kernel), List.mem_of_getElem? (i := 215) (by decide +kernel)⟩
theorem lw_p2 : lw_okq (⟨"ExtentDisk", "firstFreeRow", "(I)I"⟩, 7) := ⟨⟨by decide +kernel, by decide +kernel⟩, List.mem_of_getElem? (i := 15) (by decide +kernel), List.mem_of_getElem? (i := 319) (by decide +kernel), List.mem_of_getElem? (i := 320) (by decide +kernel)⟩
theorem lw_p3 : lw_okq (⟨"ExtentDisk", "carryOut", "(I)I"⟩, 7) := ⟨⟨by decide +kernel, by decide +kernel⟩, List.mem_of_getElem? (i := 15) (by decide +kernel), List.mem_of_getElem? (i := 330) (by decide +kernel), List.mem_of_getElem? (i := 331) (by decide +kernel)⟩
theorem lw_p4 : lw_okq (⟨"ExtentDisk", "forget", "()V"⟩, 7) := ⟨⟨by decide +kernel, by decide +kernel⟩, List.mem_of_getElem? (i := 15) (by decide +kernel), List.mem_of_getElem? (i := 340) (by decide +kernel), List.mem_of_getElem? (i := 341) (by decide +kernel)⟩
theorem lw_p5 : lw_okq (⟨"ExtentDisk", "freeBlocks", "()I"⟩, 7) := ⟨⟨by decide +kernel, by decide +kernel⟩, List.mem_of_getElem? (i := 15) (by decide +kernel), List.mem_of_getElem? (i := 390) (by decide +kernel), List.mem_of_getElem? (i := 391) (by decide +kernel)⟩
theorem lw_p6 : lw_okq (⟨"ExtentDiskModel", "goes", "(III)Z"⟩, 17) := ⟨⟨by decide +kernel, by decide +kernel⟩, List.mem_of_getElem? (i := 401) (by decide +kernel), List.mem_of_getElem? (i := 490) (by decide +kernel), List.mem_of_getElem? (i := 491) (by decide +kernel)⟩
theorem lw_p7 : lw_okq (⟨"ExtentDiskModel", "placeFor", "(I)I"⟩, 17) := ⟨⟨by decide +kernel, by decide +kernel⟩, List.mem_of_getElem? (i := 401) (by decide +kernel), List.mem_of_getElem? (i := 494) (by decide +kernel), List.mem_of_getElem? (i := 495) (by decide +kernel)⟩
theorem lw_p8 : lw_okq (⟨"ExtentDiskModel", "mark", "()V"⟩, 17) := ⟨⟨by decide +kernel, by decide +kernel⟩, List.mem_of_getElem? (i := 401) (by decide +kernel), List.mem_of_getElem? (i := 498) (by decide +kernel), List.mem_of_getElem? (i := 499) (by decide +kernel)⟩
theorem lw_p9 : lw_okq (⟨"ExtentDiskModel", "happen", "(IIIII)V"⟩, 17) := ⟨⟨by decide +kernel, by decide +kernel⟩, List.mem_of_getElem? (i := 401) (by decide +kernel), List.mem_of_getElem? (i := 502) (by decide +kernel), List.mem_of_getElem? (i := 503) (by decide +kernel)⟩
theorem lw_p10 : lw_okq (⟨"ExtentDiskModel", "fail", "()V"⟩, 17) := ⟨⟨by decide +kernel, by decide +kernel⟩, List.mem_of_getElem? (i := 401) (by decide +kernel), List.mem_of_getElem? (i := 506) (by decide +kernel), List.mem_of_getElem? (i := 507) (by decide +kernel)⟩
theorem lw_p11 : lw_okq (⟨"ExtentDiskModel", "isExtent", "(I)Z"⟩, 17) := ⟨⟨by decide +kernel, by decide +kernel⟩, List.mem_of_getElem? (i := 401) (by decide +kernel), List.mem_of_getElem? (i := 514) (by decide +kernel), List.mem_of_getElem? (i := 515) (by decide +kernel)⟩
def lw_privs_1 : List (MethodName × Nat) := [(⟨"ExtentDisk", "makeNextCount", "()V"⟩, 7), (⟨"java/lang/Throwable", "fillInStackTrace", "(I)Ljava/lang/Throwable;"⟩, 6), (⟨"ExtentDisk", "firstFreeRow", "(I)I"⟩, 7), (⟨"ExtentDisk", "carryOut", "(I)I"⟩, 7), (⟨"ExtentDisk", "forget", "()V"⟩, 7), (⟨"ExtentDisk", "freeBlocks", "()I"⟩, 7), (⟨"ExtentDiskModel", "goes", "(III)Z"⟩, 17), (⟨"ExtentDiskModel", "placeFor", "(I)I"⟩, 17), (⟨"ExtentDiskModel", "mark", "()V"⟩, 17), (⟨"ExtentDiskModel", "happen", "(IIIII)V"⟩, 17), (⟨"ExtentDiskModel", "fail", "()V"⟩, 17), (⟨"ExtentDiskModel", "isExtent", "(I)Z"⟩, 17)]
theorem lw_r1 : ∀ q ∈ lw_privs_1, lw_okq q := List.forall_mem_cons.mpr ⟨lw_p0, List.forall_mem_cons.mpr ⟨lw_p1, List.forall_mem_cons.mpr ⟨lw_p2, List.forall_mem_cons.mpr ⟨lw_p3, List.forall_mem_cons.mpr ⟨lw_p4, List.forall_mem_cons.mpr ⟨lw_p5, List.forall_mem_cons.mpr ⟨lw_p6, List.forall_mem_cons.mpr ⟨lw_p7, List.forall_mem_cons.mpr ⟨lw_p8, List.forall_mem_cons.mpr ⟨lw_p9, List.forall_mem_cons.mpr ⟨lw_p10, List.forall_mem_cons.mpr ⟨lw_p11, fun _ h => absurd h List.not_mem_nil⟩⟩⟩⟩⟩⟩⟩⟩⟩⟩⟩⟩
def lw_privs : List (MethodName × Nat) := lw_privs_1
def lw_tbl : List Cond := k2_sels lw_privs ++ tables_1
theorem lw_privs_ok : ∀ q ∈ lw_privs, lw_okq q := lw_r1
end
section
/-! ===== BEGIN words of one list among another's, by their places ===== -/
theorem goodIn_r {big : List Cond} (ws : List Cond) (ps : List Nat) (hp : ws = ps.filterMap (fun i => big[i]?)) (h : ws.all goodWord = true) : GoodIn big ws := by
  intro w hw
  have h1 := List.all_eq_true.mp h w hw
  rw [hp] at hw
  obtain ⟨i, -, hi⟩ := List.mem_filterMap.mp hw
  have hm : w ∈ big := by first | exact List.mem_of_getElem? hi | exact List.getElem?_mem hi
  exact ⟨hm, good_of_word h1⟩
theorem goodIn_app {big a b : List Cond} (ha : GoodIn big a) (hb : GoodIn big b) : GoodIn big (a ++ b) := fun w h => (List.mem_append.mp h).elim (ha w) (hb w)
theorem goodIn_ca {big a b : List Cond} {c : Cond} (ha : GoodIn big (c :: a)) (hb : GoodIn big b) : GoodIn big (c :: (a ++ b)) := fun w h => (List.mem_cons.mp h).elim (fun e => ha w (List.mem_cons.mpr (Or.inl e))) (fun h => (List.mem_append.mp h).elim (fun h => ha w (List.mem_cons.mpr (Or.inr h))) (hb w))
theorem goodIn_sub {big ws : List Cond} (hm : ∀ w ∈ ws, w ∈ big) (h : ws.all goodWord = true) : GoodIn big ws := fun w hw => ⟨hm w hw, good_of_word (List.all_eq_true.mp h w hw)⟩
/-! ===== END ===== -/

/-! ===== BEGIN exceptions that leave a method, and their catching by the caller (launches without stack traces) ===== -/
section VXA
/-! The laws vx_back, vx_callV, vx_callS, vx_callSW, vx_throw0, vx_throwS follow proofs of the library, with one case more: JvmDerived/Free/Laws.lean (Back.of_free), Shelf42/LK1.lean (callV, callS), Shelf/KitTraced.lean (throwNew0V, throwNewS). -/
/-- where a method has thrown q: the class by its name, the cell, what was written, the world -/
def vx_T (XC : String → State → State → Prop) (st : State) (q : Addr) (t : State) (mc ms : Nat) (free : Addr → Prop) : Prop :=
  ∃ (E : String) (ce : Cell) (L : List Loc), XC E st t ∧ t.heap[q]? = some ce ∧ ce.vm = .none ∧ st.vm.findClass E = some ce.cls ∧ st.WarmedH t.vm ∧ st.sameButNew ({ t with vm := st.vm } : State) L mc ms ∧ ∀ z ∈ L, free z.base
def vx_Q (Qc : Array Value → State → Outcome → State → Prop) (XC : String → State → State → Prop) (mc ms : Nat) (free : Addr → Prop) : Array Value → State → Outcome → State → Prop := fun a st o t =>
  (Qc a st o t ∧ ∃ L, FrameEnd st o t L mc ms ∧ ∀ q ∈ L, free q.base) ∨ ∃ q, o = .threw q ∧ vx_T XC st q t mc ms free
/-- a callee that returns or throws -/
def vx_Met (l : Launch) (y : MethodName) (ws : List Cond) (rm : Room) (Pc : Array Value → State → Prop) (Qc : Array Value → State → Outcome → State → Prop) (XC : String → State → State → Prop) (mc ms : Nat) (free : Addr → Prop) : Prop :=
  MetFree l y (headSpec ws rm) Pc (fun _ _ _ _ _ => True) (vx_Q Qc XC mc ms free)
def vx_Post (XC : String → State → State → Prop) (mc ms : Nat) (free : Addr → Prop) : Pt → Array Value → Addr → Pt → Prop := fun A a q B =>
  ∃ (g : JFrame) (mk : MethodId) (t : State) (L : List Loc) (E : String) (ce : Cell), B.U.heap = t.heap ∧ B.U.vm = t.vm ∧ XC E (A.U.calling g mk a) t ∧ t.heap[q]? = some ce ∧ ce.vm = .none ∧ A.U.vm.findClass E = some ce.cls ∧ B.locs = A.locs ++ L ∧ (∀ z ∈ L, free z.base) ∧ B.cells = A.cells + mc ∧ B.slots = A.slots + ms
def vx_Back (l : Launch) (R : Room) (p : Program) (e : Env) (below : List Frame) (s : State) (sargs : Array Value) (y : MethodName) (len W9 : Nat)
    (Pre : Pt → Array Value → Prop) (Post : Pt → Array Value → Option Value → Pt → Prop) (PostX : Pt → Array Value → Addr → Pt → Prop) : Prop :=
  ∀ (m : MethodId) (meth : Method) (c : Code) (A : Pt) (g : JFrame) (ig : Instr) (mk : MethodId) (a : Array Value),
    Stand p l e R s m sargs below meth c A.U A.locs A.cells A.slots → g.method = m → g.locals.size = c.maxLocals → decode c.code g.pc = .ok (ig, len) →
    2 * g.monitorRoom + (g.stack.map fun v => v.category).sum ≤ W9 → A.U.methodNamed? y = some mk → Pre A a →
    (∃ (v : Option Value) (B : Pt), Stand p l e R s m sargs below meth c B.U B.locs B.cells B.slots ∧ Post A a v B ∧
      Steps p.tables e below (doInvoke e (A.U.setTop g) [] mk a).1 (B.U.setTop { g with pc := g.pc + len, stack := v.toList ++ g.stack })) ∨
    (∃ (q : Addr) (B : Pt), Stand p l e R s m sargs below meth c B.U B.locs B.cells B.slots ∧ PostX A a q B ∧
      Steps p.tables e below (doInvoke e (A.U.setTop g) [] mk a).1 ((B.U.setTop g).pushFrame (.throwing q)))
section Payer
variable {l : Launch} {R : Room} {p : Program} {e : Env} {below : List Frame} {s : State} {sargs : Array Value} {y : MethodName} {len W9 : Nat}
theorem vx_back {ws : List Cond} {rm : Room} {Pc : Array Value → State → Prop} {Qc : Array Value → State → Outcome → State → Prop} {XC : String → State → State → Prop} {mc ms : Nat} {free : Addr → Prop} {bytes : ByteArray} {maxL : Nat} {ret : Option FieldType}
    (hM : vx_Met l y ws rm Pc Qc XC mc ms free) (hblind : FrameBlind Pc) (hrc : rm.cells = mc) (hrs : rm.slots = ms)
    (hframes : rm.frames + 1 ≤ R.frames) (hlocals : W9 + (maxL + 11) + rm.locals ≤ R.locals)
    (hws : ∀ w ∈ ws, ∀ a' U, s.WarmedH U.vm → w.before a' U = true) (hcode : Cond.code y bytes maxL ret ∈ ws) (hinit : ∀ a' U, s.WarmedH U.vm → (Cond.initialized y.cls).before a' U = true) :
    vx_Back l R p e below s sargs y len W9 (PreOf R mc ms Pc) (PostOf Qc mc ms free) (vx_Post XC mc ms free) := by
  intro m meth c A g ig mk a X hg hsize hdg hW hn hp
  have h1 : (headSpec ws rm).pre.before a A.U = true := atoms_intro fun w hw => hws w hw _ _ X.warmed
  have h2 : (Cond.code y bytes maxL ret).before a A.U = true := hws _ hcode _ _ X.warmed
  have h3 : (Cond.initialized y.cls).before a A.U = true := hinit _ _ X.warmed
  have h4 : A.cells + (headSpec ws rm).room.cells ≤ R.cells := by rw [show (headSpec ws rm).room.cells = mc from hrc]; exact hp.1
  have h5 : A.slots + (headSpec ws rm).room.slots ≤ R.slots := by rw [show (headSpec ws rm).room.slots = ms from hrs]; exact hp.2.1
  have hPc : Pc a (A.U.calling g mk a) := hblind _ _ _ _ hp.2.2
  obtain ⟨U, Ls, c0, s0⟩ := A
  dsimp only [Pt.U, Pt.locs, Pt.cells, Pt.slots] at h1 h2 h3 h4 h5 X hn hPc ⊢
  obtain ⟨methY, cY, hmY, hcY, -, hlY, -, -, -, -⟩ := Cond.code_spec hn h2
  obtain ⟨kY, hkY, -⟩ := className_of_methodNamed hn
  have hinitY : kY.init = .initialized := Cond.initialized_spec (findClass_of_methodNamed hn) hkY h3
  have h : At U g.method c below := by rw [hg]; exact X.here
  have hlocals9 : W9 + (maxL + 11) + (headSpec ws rm).room.locals ≤ R.locals := hlocals
  have happ : (headSpec ws rm).appliesLoose y e.platform (U.calling g mk a) = true :=
    Spec.appliesLoose_calling (g := g) h hdg hn hkY hinitY
      (X.room_calling (g := g) (R' := (headSpec ws rm).room) hsize hmY hcY hframes (by rw [hlY]; omega) h4 h5) h1
  obtain ⟨mid, hmid⟩ := h.above
  have hfr : (U.setTop g).frames = (.java g :: mid) ++ below := by rw [State.frames_setTop' g h.top, hmid]; rfl
  obtain ⟨o, s₂, hsteps, -, hend, hq⟩ := Steps.callFree hM p X.admits X.cas X.clock (acts := []) hfr happ hPc trivial
  have hq' : vx_Q Qc XC mc ms free a (U.calling g mk a) o s₂ := hq
  rw [State.frames_setTop' g h.top] at hend
  obtain ⟨g₀, hg0⟩ := Option.isSome_iff_exists.mp h.top
  obtain ⟨r, hr⟩ := State.topJava?_eq_some.mp hg0
  have hr' : (({ U with heap := s₂.heap, slotsUsed := s₂.slotsUsed } : State).setVm s₂.vm).frames = .java g₀ :: r := hr
  rcases hq' with ⟨hqc, L, hfe, hL⟩ | ⟨q, rfl, E, ce, L, hx, hce, hcv, hcl, hW₂, hsm, hL⟩
  · obtain ⟨⟨v, rfl⟩, hW₂, e2, q2, q3, q4, q5, q6⟩ := id hfe
    have e3 : s₂ = ({ (U.calling g mk a).setFrames s₂.frames with heap := s₂.heap, slotsUsed := s₂.slotsUsed } : State).setVm s₂.vm := by
      have : s₂ = ({ s₂ with vm := (U.calling g mk a).vm } : State).setVm s₂.vm := rfl
      rw [e2] at this
      exact this
    obtain ⟨c₂, i₂, len₂, hc₂, hd₂, hf₂⟩ := hend
    have hW' : U.WarmedH s₂.vm := hW₂
    have hcc : c₂ = c := by
      have h1 : s₂.code? g.method = U.code? g.method := by
        rw [State.code?_eq, State.code?_eq, hW'.alike.method?]
      exact Option.some.inj (hc₂.symm.trans (h1.trans h.code))
    subst hcc
    have hlen : len₂ = len := by rw [hdg] at hd₂; cases hd₂; rfl
    subst hlen
    have hs₂ : s₂ = (({ U with heap := s₂.heap, slotsUsed := s₂.slotsUsed } : State).setVm s₂.vm).setTop { g with pc := g.pc + len₂, stack := v.toList ++ g.stack } := by
      refine e3.trans ?_
      rw [hf₂, State.calling_eq h.top, State.setFrames_setFrames, State.setTop_of_frames _ hr', hr]
      rfl
    have hsame : U.sameButNew ({ U with heap := s₂.heap, slotsUsed := s₂.slotsUsed } : State) L mc ms := by
      refine ⟨?_, q2, q3, q4, q5, q6⟩
      obtain ⟨t, ht, -⟩ := State.frames_cons hr
      show ({ U with heap := s₂.heap, slotsUsed := s₂.slotsUsed } : State) = { U.setFrames U.frames with heap := s₂.heap, slotsUsed := s₂.slotsUsed }
      rw [State.setFrames_self ht]
    subst hg
    refine Or.inl ⟨v, ⟨(({ U with heap := s₂.heap, slotsUsed := s₂.slotsUsed } : State).setVm s₂.vm), Ls ++ L, c0 + mc, s0 + ms⟩,
      ⟨X.admits, X.cas, X.clock, X.frames, X.room, X.hears, X.method, X.code, (X.here.setHeapUsed s₂.heap s₂.slotsUsed).setVm hW'.alike, X.tail, State.WarmedH.trans X.warmed hW', X.limits, X.bytes, X.same.trans (hsame.setVm s.vm)⟩,
      ⟨g, mk, s₂, L, rfl, rfl, hqc, rfl, hL, rfl, rfl⟩, ?_⟩
    show Steps p.tables e below _ ((({ U with heap := s₂.heap, slotsUsed := s₂.slotsUsed } : State).setVm s₂.vm).setTop { g with pc := g.pc + len₂, stack := v.toList ++ g.stack })
    rw [← hs₂]
    exact hsteps
  · obtain ⟨e2, q2, q3, q4, q5, q6⟩ := id hsm
    have e3 : s₂ = ({ (U.calling g mk a).setFrames s₂.frames with heap := s₂.heap, slotsUsed := s₂.slotsUsed } : State).setVm s₂.vm := by
      have : s₂ = ({ s₂ with vm := (U.calling g mk a).vm } : State).setVm s₂.vm := rfl
      rw [e2] at this
      exact this
    have hf₂ : s₂.frames = .throwing q :: .java g :: U.frames.tail := hend
    have hW' : U.WarmedH s₂.vm := hW₂
    have hs₂ : s₂ = ((({ U with heap := s₂.heap, slotsUsed := s₂.slotsUsed } : State).setVm s₂.vm).setTop g).pushFrame (.throwing q) := by
      refine e3.trans ?_
      rw [hf₂, State.calling_eq h.top, State.setFrames_setFrames, State.pushFrame, State.frames_setTop _ hr', State.setTop_of_frames _ hr', State.setFrames_setFrames, hr]
      rfl
    have hsame : U.sameButNew ({ U with heap := s₂.heap, slotsUsed := s₂.slotsUsed } : State) L mc ms := by
      refine ⟨?_, q2, q3, q4, q5, q6⟩
      obtain ⟨t, ht, -⟩ := State.frames_cons hr
      show ({ U with heap := s₂.heap, slotsUsed := s₂.slotsUsed } : State) = { U.setFrames U.frames with heap := s₂.heap, slotsUsed := s₂.slotsUsed }
      rw [State.setFrames_self ht]
    subst hg
    refine Or.inr ⟨q, ⟨(({ U with heap := s₂.heap, slotsUsed := s₂.slotsUsed } : State).setVm s₂.vm), Ls ++ L, c0 + mc, s0 + ms⟩,
      ⟨X.admits, X.cas, X.clock, X.frames, X.room, X.hears, X.method, X.code, (X.here.setHeapUsed s₂.heap s₂.slotsUsed).setVm hW'.alike, X.tail, State.WarmedH.trans X.warmed hW', X.limits, X.bytes, X.same.trans (hsame.setVm s.vm)⟩,
      ⟨g, mk, s₂, L, E, ce, rfl, rfl, hx, hce, hcv, hcl, rfl, hL, rfl, rfl⟩, ?_⟩
    show Steps p.tables e below _ (((({ U with heap := s₂.heap, slotsUsed := s₂.slotsUsed } : State).setVm s₂.vm).setTop g).pushFrame (.throwing q))
    rw [← hs₂]
    exact hsteps
end Payer
section Calls
variable {p : Program} {l : Launch} {e : Env} {R : Room} {s : State} {m : MethodId} {args : Array Value} {below : List Frame} {meth : Method} {c : Code} {T : State} {locs : List Loc} {cells slots : Nat}
theorem vx_callV (X : Stand p l e R s m args below meth c T locs cells slots) (hexec : p.tables.exec = Jvm.exec) {own C : String} {index : Nat} {y : MethodName} {bytes : ByteArray} {maxL : Nat} {ret : Option FieldType}
    (hown : s.vm.findClass own = some m.cls) (hlink : (Cond.methodLink own index y).before args s = true) (hinst : (Cond.instanceMethod y).before args s = true) (hsel : (Cond.selects C y y).before args s = true)
    (hcode : (Cond.code y bytes maxL ret).before args s = true) (hy : y.cls ≠ "java/lang/invoke/MethodHandle" ∧ y.cls ≠ "java/lang/invoke/VarHandle")
    {W9 : Nat} {Pre : Pt → Array Value → Prop} {Post : Pt → Array Value → Option Value → Pt → Prop} {PostX : Pt → Array Value → Addr → Pt → Prop} (hK : vx_Back l R p e below s args y 3 W9 Pre Post PostX)
    {b : Addr} {cellB : Cell} (hcell : T.heap[b]? = some cellB) (hobj : cellB.vm.isStatics = false) (hcls : s.vm.findClass C = some cellB.cls)
    {g : JFrame} (hg : g.method = m) (hsize : g.locals.size = c.maxLocals) {argsL rest : List Value} (hlen : ∀ sig, parseMethodDescriptor y.desc = some sig → argsL.length = sig.parameters.length)
    (hstack : g.stack = argsL.reverse ++ .ref b :: rest) (hW : 2 * g.monitorRoom + (rest.map fun v => v.category).sum ≤ W9) (hdg : decode c.code g.pc = .ok (.invokevirtual index, 3))
    (hpre : ∀ vm₁, s.WarmedH vm₁ → Pre ⟨T.setVm vm₁, locs, cells, slots⟩ (Value.ref b :: argsL).toArray) :
    (∃ (v : Option Value) (vm₁ : Vm) (B : Pt), s.WarmedH vm₁ ∧ Stand p l e R s m args below meth c B.U B.locs B.cells B.slots ∧ Post ⟨T.setVm vm₁, locs, cells, slots⟩ (Value.ref b :: argsL).toArray v B ∧
      ∀ target, Steps p.tables e below (B.U.setTop { g with pc := g.pc + 3, stack := v.toList ++ rest }) target → Steps p.tables e below (T.setTop g) target) ∨
    (∃ (q : Addr) (vm₁ : Vm) (B : Pt), s.WarmedH vm₁ ∧ Stand p l e R s m args below meth c B.U B.locs B.cells B.slots ∧ PostX ⟨T.setVm vm₁, locs, cells, slots⟩ (Value.ref b :: argsL).toArray q B ∧
      Steps p.tables e below (T.setTop g) ((B.U.setTop { g with stack := rest }).pushFrame (.throwing q))) := by
  obtain ⟨mk, methM, hnamed, hmethM, hstM, habM⟩ := Cond.instanceMethod_spec hinst
  obtain ⟨methM', cM, hmethM', -, -, -, -, -, -, hsigM⟩ := Cond.code_spec hnamed hcode
  cases hmethM.symm.trans hmethM'
  obtain ⟨c2, r2, m2, q1, q2, q3, q4, kP, hkP, hkPi⟩ := Cond.selects_spec hsel
  cases hcls.symm.trans q1
  cases (State.methodFound?_of_named hnamed hy).symm.trans q2
  cases hnamed.symm.trans q3
  have hselP : selectMethod e.platform s.vm cellB.cls mk = .method mk := by rw [Launch.admits_selectMethod X.admits]; exact q4
  obtain ⟨vm₁, X₁, hstep₁⟩ := X.invokevirtual hexec hown hlink hnamed hmethM hstM hkP hkPi hy (a := b) (cell := cellB) hcell
    (fun z h => by rw [h] at hobj; cases hobj) hselP hmethM habM hkP hkPi (g := g) hg (argsL := argsL) (rest := rest) (hlen _ hsigM) hstack hdg
  rcases hK m meth c ⟨T.setVm vm₁, locs, cells, slots⟩ { g with stack := rest } (.invokevirtual index) mk (Value.ref b :: argsL).toArray X₁ hg hsize hdg hW (X₁.named hnamed) (hpre vm₁ X₁.warmed) with ⟨v, B, X', hpost, hsteps⟩ | ⟨q, B, X', hpost, hsteps⟩
  · exact Or.inl ⟨v, vm₁, B, X₁.warmed, X', hpost, fun target h => hstep₁ _ fun acts => by rw [doInvoke_state]; exact hsteps.trans h⟩
  · exact Or.inr ⟨q, vm₁, B, X₁.warmed, X', hpost, hstep₁ _ fun acts => by rw [doInvoke_state]; exact hsteps⟩
theorem vx_callS (X : Stand p l e R s m args below meth c T locs cells slots) (hexec : p.tables.exec = Jvm.exec) {own : String} {index : Nat} {y : MethodName} {bytes : ByteArray} {maxL : Nat} {ret : Option FieldType}
    (hown : s.vm.findClass own = some m.cls) (hlink : (Cond.methodLink own index y).before args s = true) (hstat : (Cond.static y).before args s = true) (hinit : (Cond.initialized y.cls).before args s = true)
    (hcode : (Cond.code y bytes maxL ret).before args s = true) (hy : y.cls ≠ "java/lang/invoke/MethodHandle" ∧ y.cls ≠ "java/lang/invoke/VarHandle")
    {W9 : Nat} {Pre : Pt → Array Value → Prop} {Post : Pt → Array Value → Option Value → Pt → Prop} {PostX : Pt → Array Value → Addr → Pt → Prop} (hK : vx_Back l R p e below s args y 3 W9 Pre Post PostX)
    {g : JFrame} (hg : g.method = m) (hsize : g.locals.size = c.maxLocals) {argsL rest : List Value} (hlen : ∀ sig, parseMethodDescriptor y.desc = some sig → argsL.length = sig.parameters.length)
    (hstack : g.stack = argsL.reverse ++ rest) (hW : 2 * g.monitorRoom + (rest.map fun v => v.category).sum ≤ W9) (hdg : decode c.code g.pc = .ok (.invokestatic index, 3))
    (hpre : ∀ vm₁, s.WarmedH vm₁ → Pre ⟨T.setVm vm₁, locs, cells, slots⟩ argsL.toArray) :
    (∃ (v : Option Value) (vm₁ : Vm) (B : Pt), s.WarmedH vm₁ ∧ Stand p l e R s m args below meth c B.U B.locs B.cells B.slots ∧ Post ⟨T.setVm vm₁, locs, cells, slots⟩ argsL.toArray v B ∧
      ∀ target, Steps p.tables e below (B.U.setTop { g with pc := g.pc + 3, stack := v.toList ++ rest }) target → Steps p.tables e below (T.setTop g) target) ∨
    (∃ (q : Addr) (vm₁ : Vm) (B : Pt), s.WarmedH vm₁ ∧ Stand p l e R s m args below meth c B.U B.locs B.cells B.slots ∧ PostX ⟨T.setVm vm₁, locs, cells, slots⟩ argsL.toArray q B ∧
      Steps p.tables e below (T.setTop g) ((B.U.setTop { g with stack := rest }).pushFrame (.throwing q))) := by
  obtain ⟨mk, hnamed⟩ := Cond.code_named hcode
  obtain ⟨methM, cM, hmethM, -, -, -, -, -, -, hsigM⟩ := Cond.code_spec hnamed hcode
  have hstatic : methM.isStatic = true := Cond.static_spec hnamed hmethM hstat
  obtain ⟨kP, hkP, -⟩ := className_of_methodNamed hnamed
  have hinitP : kP.init = .initialized := Cond.initialized_spec (findClass_of_methodNamed hnamed) hkP hinit
  obtain ⟨vm₁, X₁, hstep₁⟩ := X.invokestatic hexec hown hlink hnamed hmethM hstatic hkP hinitP hy (g := g) hg (argsL := argsL) (rest := rest) (hlen _ hsigM) hstack hdg
  rcases hK m meth c ⟨T.setVm vm₁, locs, cells, slots⟩ { g with stack := rest } (.invokestatic index) mk argsL.toArray X₁ hg hsize hdg hW (X₁.named hnamed) (hpre vm₁ X₁.warmed) with ⟨v, B, X', hpost, hsteps⟩ | ⟨q, B, X', hpost, hsteps⟩
  · exact Or.inl ⟨v, vm₁, B, X₁.warmed, X', hpost, fun target h => hstep₁ _ fun acts => by rw [doInvoke_state]; exact hsteps.trans h⟩
  · exact Or.inr ⟨q, vm₁, B, X₁.warmed, X', hpost, hstep₁ _ fun acts => by rw [doInvoke_state]; exact hsteps⟩
end Calls
theorem vx_cls {s : State} {T : State} {vm₁ : Vm} {E : String} {k : ClassId} (hW : s.WarmedH vm₁) (h : (T.setVm vm₁).vm.findClass E = some k) : s.vm.findClass E = some k := by
  have h1 : vm₁.findClass E = some k := h
  rw [hW.alike.findClass] at h1
  exact h1
/-- the method's frame g, with q thrown over it -/
def vx_W (p : Program) (l : Launch) (e : Env) (R : Room) (s : State) (m : MethodId) (args : Array Value) (below : List Frame) (meth : Method) (c : Code) (H : Heap) (locs : List Loc) (cells slots : Nat) (Q : State → Prop) (g : JFrame) (q : Addr) : Prop :=
  ∀ T : State, T.heap = H → Stand p l e R s m args below meth c T locs cells slots → ∃ t, Steps p.tables e below ((T.setTop g).pushFrame (.throwing q)) t ∧ Q t
def vx_Run (p : Program) (l : Launch) (e : Env) (R : Room) (s : State) (m : MethodId) (args : Array Value) (below : List Frame) (meth : Method) (c : Code) (H : Heap) (locs : List Loc) (cells slots mc ms : Nat) (g : JFrame) (rest : List Value) (Qa : State → Outcome → State → Prop) (XC : String → State → State → Prop) (free : Addr → Prop) : Prop :=
  ∀ T : State, T.heap = H → Stand p l e R s m args below meth c T locs cells slots →
    (∃ (v : Option Value) (st₀ t T' : State) (L : List Loc), st₀.heap = H ∧ Stand p l e R s m args below meth c T' (locs ++ L) (cells + mc) (slots + ms) ∧ (∀ q ∈ L, free q.base) ∧ T'.heap = t.heap ∧ T'.vm = t.vm ∧ Qa st₀ (.returned v) t ∧
      Goes p e below T g T' { g with pc := g.pc + 3, stack := v.toList ++ rest }) ∨
    (∃ (q : Addr) (st₀ t T' : State) (L : List Loc) (E : String) (ce : Cell), st₀.heap = H ∧ Stand p l e R s m args below meth c T' (locs ++ L) (cells + mc) (slots + ms) ∧ (∀ z ∈ L, free z.base) ∧ T'.heap = t.heap ∧ T'.vm = t.vm ∧ XC E st₀ t ∧ t.heap[q]? = some ce ∧ ce.vm = .none ∧ s.vm.findClass E = some ce.cls ∧
      Steps p.tables e below (T.setTop g) ((T'.setTop { g with stack := rest }).pushFrame (.throwing q)))
def vx_X {S : Type} (px : S → Prop) (B : String → S → State → Prop) (A : Nat → Prop) : String → State → State → Prop := fun E st t => ∃ u : S, px u ∧ B E u t ∧ va_F A st t
section Runs
variable {p : Program} {l : Launch} {e : Env} {R : Room} {s : State} {m : MethodId} {args : Array Value} {below : List Frame} {meth : Method} {c : Code} {H : Heap} {locs : List Loc} {cells slots : Nat}
variable {y : MethodName} {bytes cc : ByteArray} {maxL nL mc ms n index : Nat} {ret : Option FieldType} {ws : List Cond} {rm : Room} {Pc : Array Value → State → Prop} {Qc : Array Value → State → Outcome → State → Prop} {XC : String → State → State → Prop} {free : Addr → Prop} {Ts : List Cond} {own C : String} {b : Addr} {As rest : List Value} {g : JFrame}
theorem vx_callBack (cb : CallB R s args own index y bytes maxL ret ws rm mc ms n) (hM : vx_Met l y ws rm Pc Qc XC mc ms free) (hbl : FrameBlind Pc) : vx_Back l R p e below s args y 3 8 (PreOf R mc ms Pc) (PostOf Qc mc ms free) (vx_Post XC mc ms free) := by
  obtain ⟨hrc, hrs, hfr, hlo, hws, hcw, -, hini, -⟩ := cb
  exact vx_back (bytes := bytes) (maxL := maxL) (ret := ret) hM hbl hrc hrs hfr hlo hws hcw (fun a' U hW => word_at hW (Or.inl (by first | rfl | simp [Cond.onTables, Cond.keeps, Cond.steady])) hini)
theorem vx_runV (S : CallFix p m c cc nL s args Ts own) (hM : vx_Met l y ws rm Pc Qc XC mc ms free) (cw : CallW R s args own C index y bytes maxL ret ws rm mc ms n) (hp : PreV s H C b Pc As)
    (hg : g.method = m) (hn : As.length = n) (hsize : g.locals.size = nL) (hstack : g.stack = As.reverse ++ .ref b :: rest) (hW : 2 * g.monitorRoom + (rest.map fun v => v.category).sum ≤ 8) (hdg : decode cc g.pc = .ok (.invokevirtual index, 3)) (hf : cells + mc ≤ R.cells ∧ slots + ms ≤ R.slots) :
    vx_Run p l e R s m args below meth c H locs cells slots mc ms g rest (Qc (Value.ref b :: As).toArray) XC free := by
  have hK : vx_Back l R p e below s args y 3 8 (PreOf R mc ms Pc) (PostOf Qc mc ms free) (vx_Post XC mc ms free) := vx_callBack cw.1 hM hp.1
  obtain ⟨⟨-, -, -, -, -, -, hcode, -, hy, hlen, hl⟩, hin, hse⟩ := cw
  obtain ⟨hx, hb, hml, ho, -⟩ := S
  obtain ⟨-, ⟨cellB, hcB, hoB, hclB⟩, hPc⟩ := hp
  intro T hT X
  rcases vx_callV X hx (C := C) (bytes := bytes) (maxL := maxL) (ret := ret) ho hl hin hse hcode hy hK (by rw [hT]; exact hcB) hoB hclB hg (hsize.trans hml.symm) (argsL := As) (rest := rest) (fun sig h => hn.trans (hlen sig h)) hstack hW (by rw [hb]; exact hdg)
    (fun vm₁ hW₁ => ⟨hf.1, hf.2, hPc (T.setVm vm₁) hT hW₁⟩) with ⟨v, vm₁, ⟨U', l2, c2, s2⟩, hW₁, X', ⟨g', mk, t, L, e1, e2, hq, h1, hL, h2, h3⟩, st⟩ | ⟨q, vm₁, ⟨U', l2, c2, s2⟩, hW₁, X', ⟨g', mk, t, L, E, ce, e1, e2, hq, hce, hcv, hcl, h1, hL, h2, h3⟩, st⟩
  · dsimp only [Pt.U, Pt.locs, Pt.cells, Pt.slots] at X' e1 e2 h1 h2 h3 st
    subst h1; subst h2; subst h3
    exact Or.inl ⟨v, (T.setVm vm₁).calling g' mk (Value.ref b :: As).toArray, t, U', L, hT, X', hL, e1, e2, hq, st⟩
  · dsimp only [Pt.U, Pt.locs, Pt.cells, Pt.slots] at X' e1 e2 h1 h2 h3 st hcl
    subst h1; subst h2; subst h3
    exact Or.inr ⟨q, (T.setVm vm₁).calling g' mk (Value.ref b :: As).toArray, t, U', L, E, ce, hT, X', hL, e1, e2, hq, hce, hcv, vx_cls hW₁ hcl, st⟩
theorem vx_runS (S : CallFix p m c cc nL s args Ts own) (hM : vx_Met l y ws rm Pc Qc XC mc ms free) (cw : CallB R s args own index y bytes maxL ret ws rm mc ms n ∧ (Cond.static y).before args s = true) (hp : PreS s H Pc As)
    (hg : g.method = m) (hn : As.length = n) (hsize : g.locals.size = nL) (hstack : g.stack = As.reverse ++ rest) (hW : 2 * g.monitorRoom + (rest.map fun v => v.category).sum ≤ 8) (hdg : decode cc g.pc = .ok (.invokestatic index, 3)) (hf : cells + mc ≤ R.cells ∧ slots + ms ≤ R.slots) :
    vx_Run p l e R s m args below meth c H locs cells slots mc ms g rest (Qc As.toArray) XC free := by
  have hK : vx_Back l R p e below s args y 3 8 (PreOf R mc ms Pc) (PostOf Qc mc ms free) (vx_Post XC mc ms free) := vx_callBack cw.1 hM hp.1
  obtain ⟨⟨-, -, -, -, -, -, hcode, hini, hy, hlen, hl⟩, hstt⟩ := cw
  obtain ⟨hx, hb, hml, ho, -⟩ := S
  intro T hT X
  rcases vx_callS X hx (bytes := bytes) (maxL := maxL) (ret := ret) ho hl hstt hini hcode hy hK hg (hsize.trans hml.symm) (argsL := As) (rest := rest) (fun sig h => hn.trans (hlen sig h)) hstack hW (by rw [hb]; exact hdg)
    (fun vm₁ hW₁ => ⟨hf.1, hf.2, hp.2 (T.setVm vm₁) hT hW₁⟩) with ⟨v, vm₁, ⟨U', l2, c2, s2⟩, hW₁, X', ⟨g', mk, t, L, e1, e2, hq, h1, hL, h2, h3⟩, st⟩ | ⟨q, vm₁, ⟨U', l2, c2, s2⟩, hW₁, X', ⟨g', mk, t, L, E, ce, e1, e2, hq, hce, hcv, hcl, h1, hL, h2, h3⟩, st⟩
  · dsimp only [Pt.U, Pt.locs, Pt.cells, Pt.slots] at X' e1 e2 h1 h2 h3 st
    subst h1; subst h2; subst h3
    exact Or.inl ⟨v, (T.setVm vm₁).calling g' mk As.toArray, t, U', L, hT, X', hL, e1, e2, hq, st⟩
  · dsimp only [Pt.U, Pt.locs, Pt.cells, Pt.slots] at X' e1 e2 h1 h2 h3 st hcl
    subst h1; subst h2; subst h3
    exact Or.inr ⟨q, (T.setVm vm₁).calling g' mk As.toArray, t, U', L, E, ce, hT, X', hL, e1, e2, hq, hce, hcv, vx_cls hW₁ hcl, st⟩
end Runs
section Rows
variable {p : Program} {l : Launch} {e : Env} {R : Room} {s : State} {m : MethodId} {args : Array Value} {below : List Frame} {meth : Method} {c : Code} {H : Heap} {locs : List Loc} {cells slots : Nat} {Q : State → Prop}
variable {mc ms : Nat} {free : Addr → Prop} {A0 A1 : Nat → Prop} {H0 : Heap} {a : Array Value} {pc : Nat} {ls : Array Slot} {st0 rest : List Value}
theorem vx_keep {st₀ t T' : State} {L : List Loc} (h0 : st₀.heap = H) (e1 : T'.heap = t.heap) (hS : va_S A0 H0 H locs) (hA : ∀ q, q < H.size → A1 q → A0 q) (hf : ∀ q, free q → A0 q) (hL : ∀ q ∈ L, free q.base) (hF : va_F A1 st₀ t) :
    H.size ≤ T'.heap.size ∧ (∀ q : Nat, q < H.size → ¬ A1 q → T'.heap[q]? = H[q]?) ∧ va_S A0 H0 T'.heap (locs ++ L) := by
  obtain ⟨hz, hk⟩ := hF
  rw [h0] at hz hk
  exact ⟨by rw [e1]; exact hz, fun q h1 h2 => by rw [e1]; exact hk q h1 h2,
    ⟨Nat.le_trans hS.1 (by rw [e1]; exact hz), fun q h1 h2 => by rw [e1, hk q (Nat.lt_of_lt_of_le h1 hS.1) (fun z => h2 (hA q (Nat.lt_of_lt_of_le h1 hS.1) z))]; exact hS.2.1 q h1 h2, fun q hq => by
      rcases List.mem_append.mp hq with h | h
      · exact hS.2.2 q h
      · exact hf _ (hL q h)⟩⟩
theorem vx_calli {S SX : Type} {post : Int32 → S → Prop} {px : SX → Prop} {B : S → State → Prop} {BX : String → SX → State → Prop} {AX : Nat → Prop} (hr : vx_Run p l e R s m args below meth c H locs cells slots mc ms (F0 m pc ls st0) rest (va_Qi post B A1 a) (vx_X px BX AX) free) (hS : va_S A0 H0 H locs) (hA : ∀ q, q < H.size → A1 q → A0 q) (hf : ∀ q, free q → A0 q) (hAX : ∀ q, q < H.size → AX q → A0 q)
    (kx : ∀ (E : String) (ce : Cell) (q9 : Addr) (u : SX) (t : State) (H1 : Heap) (locs1 : List Loc), t.heap = H1 → s.vm.Alike t.vm → px u → BX E u t → H.size ≤ H1.size → (∀ q : Nat, q < H.size → ¬ AX q → H1[q]? = H[q]?) → va_S A0 H0 H1 locs1 → H1[q9]? = some ce → ce.vm = .none → s.vm.findClass E = some ce.cls → vx_W p l e R s m args below meth c H1 locs1 (cells + mc) (slots + ms) Q (F0 m pc ls rest) q9)
    (kk : ∀ (r : Int32) (u : S) (t : State) (H1 : Heap) (locs1 : List Loc), t.heap = H1 → s.vm.Alike t.vm → post r u → B u t → H.size ≤ H1.size → (∀ q : Nat, q < H.size → ¬ A1 q → H1[q]? = H[q]?) → va_S A0 H0 H1 locs1 → W p l e R s m args below meth c H1 locs1 (cells + mc) (slots + ms) Q (F0 m (pc + 3) ls (.int r :: rest))) : W p l e R s m args below meth c H locs cells slots Q (F0 m pc ls st0) := by
  intro T hT X
  rcases hr T hT X with ⟨v, st₀, t, T', L, h0, X', hL, e1, e2, ⟨⟨r, u, hv, hp, hb⟩, hF⟩, st⟩ | ⟨q, st₀, t, T', L, E, ce, h0, X', hL, e1, e2, ⟨u, hp, hb, hF⟩, hce, hcv, hcl, st⟩
  · cases hv
    obtain ⟨k1, k2, k3⟩ := vx_keep h0 e1 hS hA hf hL hF
    obtain ⟨t2, a1, b1⟩ := kk r u t T'.heap (locs ++ L) e1.symm (by rw [← e2]; exact X'.warmed.alike) hp hb k1 k2 k3 T' rfl X'
    exact ⟨t2, st t2 a1, b1⟩
  · obtain ⟨k1, k2, k3⟩ := vx_keep h0 e1 hS hAX hf hL hF
    obtain ⟨t2, a1, b1⟩ := kx E ce q u t T'.heap (locs ++ L) e1.symm (by rw [← e2]; exact X'.warmed.alike) hp hb k1 k2 k3 (by rw [e1]; exact hce) hcv hcl T' rfl X'
    exact ⟨t2, st.trans a1, b1⟩
theorem vx_calll {S SX : Type} {post : Int64 → S → Prop} {px : SX → Prop} {B : S → State → Prop} {BX : String → SX → State → Prop} {AX : Nat → Prop} (hr : vx_Run p l e R s m args below meth c H locs cells slots mc ms (F0 m pc ls st0) rest (va_Ql post B A1 a) (vx_X px BX AX) free) (hS : va_S A0 H0 H locs) (hA : ∀ q, q < H.size → A1 q → A0 q) (hf : ∀ q, free q → A0 q) (hAX : ∀ q, q < H.size → AX q → A0 q)
    (kx : ∀ (E : String) (ce : Cell) (q9 : Addr) (u : SX) (t : State) (H1 : Heap) (locs1 : List Loc), t.heap = H1 → s.vm.Alike t.vm → px u → BX E u t → H.size ≤ H1.size → (∀ q : Nat, q < H.size → ¬ AX q → H1[q]? = H[q]?) → va_S A0 H0 H1 locs1 → H1[q9]? = some ce → ce.vm = .none → s.vm.findClass E = some ce.cls → vx_W p l e R s m args below meth c H1 locs1 (cells + mc) (slots + ms) Q (F0 m pc ls rest) q9)
    (kk : ∀ (r : Int64) (u : S) (t : State) (H1 : Heap) (locs1 : List Loc), t.heap = H1 → s.vm.Alike t.vm → post r u → B u t → H.size ≤ H1.size → (∀ q : Nat, q < H.size → ¬ A1 q → H1[q]? = H[q]?) → va_S A0 H0 H1 locs1 → W p l e R s m args below meth c H1 locs1 (cells + mc) (slots + ms) Q (F0 m (pc + 3) ls (.long r :: rest))) : W p l e R s m args below meth c H locs cells slots Q (F0 m pc ls st0) := by
  intro T hT X
  rcases hr T hT X with ⟨v, st₀, t, T', L, h0, X', hL, e1, e2, ⟨⟨r, u, hv, hp, hb⟩, hF⟩, st⟩ | ⟨q, st₀, t, T', L, E, ce, h0, X', hL, e1, e2, ⟨u, hp, hb, hF⟩, hce, hcv, hcl, st⟩
  · cases hv
    obtain ⟨k1, k2, k3⟩ := vx_keep h0 e1 hS hA hf hL hF
    obtain ⟨t2, a1, b1⟩ := kk r u t T'.heap (locs ++ L) e1.symm (by rw [← e2]; exact X'.warmed.alike) hp hb k1 k2 k3 T' rfl X'
    exact ⟨t2, st t2 a1, b1⟩
  · obtain ⟨k1, k2, k3⟩ := vx_keep h0 e1 hS hAX hf hL hF
    obtain ⟨t2, a1, b1⟩ := kx E ce q u t T'.heap (locs ++ L) e1.symm (by rw [← e2]; exact X'.warmed.alike) hp hb k1 k2 k3 (by rw [e1]; exact hce) hcv hcl T' rfl X'
    exact ⟨t2, st.trans a1, b1⟩
theorem vx_callf {S SX : Type} {post : UInt32 → S → Prop} {px : SX → Prop} {B : S → State → Prop} {BX : String → SX → State → Prop} {AX : Nat → Prop} (hr : vx_Run p l e R s m args below meth c H locs cells slots mc ms (F0 m pc ls st0) rest (va_Qf post B A1 a) (vx_X px BX AX) free) (hS : va_S A0 H0 H locs) (hA : ∀ q, q < H.size → A1 q → A0 q) (hf : ∀ q, free q → A0 q) (hAX : ∀ q, q < H.size → AX q → A0 q)
    (kx : ∀ (E : String) (ce : Cell) (q9 : Addr) (u : SX) (t : State) (H1 : Heap) (locs1 : List Loc), t.heap = H1 → s.vm.Alike t.vm → px u → BX E u t → H.size ≤ H1.size → (∀ q : Nat, q < H.size → ¬ AX q → H1[q]? = H[q]?) → va_S A0 H0 H1 locs1 → H1[q9]? = some ce → ce.vm = .none → s.vm.findClass E = some ce.cls → vx_W p l e R s m args below meth c H1 locs1 (cells + mc) (slots + ms) Q (F0 m pc ls rest) q9)
    (kk : ∀ (r : UInt32) (u : S) (t : State) (H1 : Heap) (locs1 : List Loc), t.heap = H1 → s.vm.Alike t.vm → post r u → B u t → H.size ≤ H1.size → (∀ q : Nat, q < H.size → ¬ A1 q → H1[q]? = H[q]?) → va_S A0 H0 H1 locs1 → W p l e R s m args below meth c H1 locs1 (cells + mc) (slots + ms) Q (F0 m (pc + 3) ls (.float r :: rest))) : W p l e R s m args below meth c H locs cells slots Q (F0 m pc ls st0) := by
  intro T hT X
  rcases hr T hT X with ⟨v, st₀, t, T', L, h0, X', hL, e1, e2, ⟨⟨r, u, hv, hp, hb⟩, hF⟩, st⟩ | ⟨q, st₀, t, T', L, E, ce, h0, X', hL, e1, e2, ⟨u, hp, hb, hF⟩, hce, hcv, hcl, st⟩
  · cases hv
    obtain ⟨k1, k2, k3⟩ := vx_keep h0 e1 hS hA hf hL hF
    obtain ⟨t2, a1, b1⟩ := kk r u t T'.heap (locs ++ L) e1.symm (by rw [← e2]; exact X'.warmed.alike) hp hb k1 k2 k3 T' rfl X'
    exact ⟨t2, st t2 a1, b1⟩
  · obtain ⟨k1, k2, k3⟩ := vx_keep h0 e1 hS hAX hf hL hF
    obtain ⟨t2, a1, b1⟩ := kx E ce q u t T'.heap (locs ++ L) e1.symm (by rw [← e2]; exact X'.warmed.alike) hp hb k1 k2 k3 (by rw [e1]; exact hce) hcv hcl T' rfl X'
    exact ⟨t2, st.trans a1, b1⟩
theorem vx_calld {S SX : Type} {post : UInt64 → S → Prop} {px : SX → Prop} {B : S → State → Prop} {BX : String → SX → State → Prop} {AX : Nat → Prop} (hr : vx_Run p l e R s m args below meth c H locs cells slots mc ms (F0 m pc ls st0) rest (va_Qd post B A1 a) (vx_X px BX AX) free) (hS : va_S A0 H0 H locs) (hA : ∀ q, q < H.size → A1 q → A0 q) (hf : ∀ q, free q → A0 q) (hAX : ∀ q, q < H.size → AX q → A0 q)
    (kx : ∀ (E : String) (ce : Cell) (q9 : Addr) (u : SX) (t : State) (H1 : Heap) (locs1 : List Loc), t.heap = H1 → s.vm.Alike t.vm → px u → BX E u t → H.size ≤ H1.size → (∀ q : Nat, q < H.size → ¬ AX q → H1[q]? = H[q]?) → va_S A0 H0 H1 locs1 → H1[q9]? = some ce → ce.vm = .none → s.vm.findClass E = some ce.cls → vx_W p l e R s m args below meth c H1 locs1 (cells + mc) (slots + ms) Q (F0 m pc ls rest) q9)
    (kk : ∀ (r : UInt64) (u : S) (t : State) (H1 : Heap) (locs1 : List Loc), t.heap = H1 → s.vm.Alike t.vm → post r u → B u t → H.size ≤ H1.size → (∀ q : Nat, q < H.size → ¬ A1 q → H1[q]? = H[q]?) → va_S A0 H0 H1 locs1 → W p l e R s m args below meth c H1 locs1 (cells + mc) (slots + ms) Q (F0 m (pc + 3) ls (.double r :: rest))) : W p l e R s m args below meth c H locs cells slots Q (F0 m pc ls st0) := by
  intro T hT X
  rcases hr T hT X with ⟨v, st₀, t, T', L, h0, X', hL, e1, e2, ⟨⟨r, u, hv, hp, hb⟩, hF⟩, st⟩ | ⟨q, st₀, t, T', L, E, ce, h0, X', hL, e1, e2, ⟨u, hp, hb, hF⟩, hce, hcv, hcl, st⟩
  · cases hv
    obtain ⟨k1, k2, k3⟩ := vx_keep h0 e1 hS hA hf hL hF
    obtain ⟨t2, a1, b1⟩ := kk r u t T'.heap (locs ++ L) e1.symm (by rw [← e2]; exact X'.warmed.alike) hp hb k1 k2 k3 T' rfl X'
    exact ⟨t2, st t2 a1, b1⟩
  · obtain ⟨k1, k2, k3⟩ := vx_keep h0 e1 hS hAX hf hL hF
    obtain ⟨t2, a1, b1⟩ := kx E ce q u t T'.heap (locs ++ L) e1.symm (by rw [← e2]; exact X'.warmed.alike) hp hb k1 k2 k3 (by rw [e1]; exact hce) hcv hcl T' rfl X'
    exact ⟨t2, st.trans a1, b1⟩
theorem vx_callv {S SX : Type} {post : S → Prop} {px : SX → Prop} {B : S → State → Prop} {BX : String → SX → State → Prop} {AX : Nat → Prop} (hr : vx_Run p l e R s m args below meth c H locs cells slots mc ms (F0 m pc ls st0) rest (va_Qv post B A1 a) (vx_X px BX AX) free) (hS : va_S A0 H0 H locs) (hA : ∀ q, q < H.size → A1 q → A0 q) (hf : ∀ q, free q → A0 q) (hAX : ∀ q, q < H.size → AX q → A0 q)
    (kx : ∀ (E : String) (ce : Cell) (q9 : Addr) (u : SX) (t : State) (H1 : Heap) (locs1 : List Loc), t.heap = H1 → s.vm.Alike t.vm → px u → BX E u t → H.size ≤ H1.size → (∀ q : Nat, q < H.size → ¬ AX q → H1[q]? = H[q]?) → va_S A0 H0 H1 locs1 → H1[q9]? = some ce → ce.vm = .none → s.vm.findClass E = some ce.cls → vx_W p l e R s m args below meth c H1 locs1 (cells + mc) (slots + ms) Q (F0 m pc ls rest) q9)
    (kk : ∀ (u : S) (t : State) (H1 : Heap) (locs1 : List Loc), t.heap = H1 → s.vm.Alike t.vm → post u → B u t → H.size ≤ H1.size → (∀ q : Nat, q < H.size → ¬ A1 q → H1[q]? = H[q]?) → va_S A0 H0 H1 locs1 → W p l e R s m args below meth c H1 locs1 (cells + mc) (slots + ms) Q (F0 m (pc + 3) ls (rest))) : W p l e R s m args below meth c H locs cells slots Q (F0 m pc ls st0) := by
  intro T hT X
  rcases hr T hT X with ⟨v, st₀, t, T', L, h0, X', hL, e1, e2, ⟨⟨u, hv, hp, hb⟩, hF⟩, st⟩ | ⟨q, st₀, t, T', L, E, ce, h0, X', hL, e1, e2, ⟨u, hp, hb, hF⟩, hce, hcv, hcl, st⟩
  · cases hv
    obtain ⟨k1, k2, k3⟩ := vx_keep h0 e1 hS hA hf hL hF
    obtain ⟨t2, a1, b1⟩ := kk u t T'.heap (locs ++ L) e1.symm (by rw [← e2]; exact X'.warmed.alike) hp hb k1 k2 k3 T' rfl X'
    exact ⟨t2, st t2 a1, b1⟩
  · obtain ⟨k1, k2, k3⟩ := vx_keep h0 e1 hS hAX hf hL hF
    obtain ⟨t2, a1, b1⟩ := kx E ce q u t T'.heap (locs ++ L) e1.symm (by rw [← e2]; exact X'.warmed.alike) hp hb k1 k2 k3 (by rw [e1]; exact hce) hcv hcl T' rfl X'
    exact ⟨t2, st.trans a1, b1⟩
/-- caught by the row x of this method's table; the rows ahead don't take it -/
theorem vx_catch {own name : String} {E : String} {ce : Cell} {q : Addr} (hown : s.vm.findClass own = some m.cls) (pre : List ExceptionTableEntry) (x : ExceptionTableEntry) (suf : List ExceptionTableEntry) (hsplit : c.exceptionTable.toList = pre ++ x :: suf)
    (hpass : ∀ z ∈ pre, covers z pc = false ∨ (z.catchType ≠ 0 ∧ ∃ nm : String, (Cond.classLink own z.catchType nm).before args s = true ∧ va_Nc E nm s)) (hx : covers x pc = true) (h0 : x.catchType ≠ 0)
    (hlink : (Cond.classLink own x.catchType name).before args s = true) (hcast : (Cond.castable E name).before args s = true) (hcell : H[q]? = some ce) (hv : ce.vm = .none) (hcl : s.vm.findClass E = some ce.cls)
    (kk : W p l e R s m args below meth c H locs cells slots Q (F0 m x.handlerPc ls [.ref q])) : vx_W p l e R s m args below meth c H locs cells slots Q (F0 m pc ls rest) q := by
  intro T hT X
  have hpl : e.platform.magicAccessors = ({} : Platform).magicAccessors := by rw [X.admits.platform]
  obtain ⟨c3, c4, hc3, hc4, hasg⟩ := Cond.castable_spec hcast
  cases Option.some.inj (hc3.symm.trans hcl)
  obtain ⟨c5, hc5, hcl5⟩ := Cond.classLink_spec hown hlink e.platform hpl
  cases Option.some.inj (hc4.symm.trans hc5)
  obtain ⟨vm', X', st⟩ := X.thenCaughtThrough q (g := F0 m pc ls rest) rfl (Steps.refl _) (by rw [hT]; exact hcell) (by rw [hv]; rfl) (by obtain ⟨k9, h9, -⟩ := Vm.findClass_spec hcl; exact ⟨k9, h9⟩) pre x suf hsplit
    (fun z hz => by
      rcases hpass z hz with h | ⟨hz0, nm, hl1, hn1⟩
      · exact Or.inl h
      · obtain ⟨c6, hc6, hcl6⟩ := Cond.classLink_spec hown hl1 e.platform hpl
        obtain ⟨a8, b8, h1, h2, h3⟩ := hn1
        cases Option.some.inj (h1.symm.trans hcl)
        cases Option.some.inj (h2.symm.trans hc6)
        exact Or.inr ⟨hz0, _, hcl6, h3⟩) hx (Or.inr ⟨h0, c4, hcl5, hasg⟩)
  obtain ⟨t, a1, b1⟩ := kk (T.setVm vm') hT X'
  exact ⟨t, st.trans a1, b1⟩
end Rows
section Ends
variable {p : Program} {l : Launch} {e : Env} {R : Room} {s : State} {m : MethodId} {args : Array Value} {below : List Frame} {meth : Method} {c : Code} {H : Heap} {locs : List Loc} {cells slots : Nat} {Q : State → Prop}
variable {mc ms : Nat} {free : Addr → Prop} {A0 A1 : Nat → Prop} {H0 : Heap} {a : Array Value} {ls : Array Slot} {st0 rest : List Value}
variable {Qc : Array Value → State → Outcome → State → Prop} {XC : String → State → State → Prop}
/-- what a body that may throw owes at its end -/
def vx_MQ (below : List Frame) (Qc : Array Value → State → Outcome → State → Prop) (XC : String → State → State → Prop) (a : Array Value) (s : State) (mc ms : Nat) (free : Addr → Prop) : State → Prop := fun t =>
  ∃ o, t.status = .running ∧ Ended t below o ∧ vx_Q Qc XC mc ms free a s o t
theorem vx_ret {g : JFrame} {mc ms : Nat} (k : W p l e R s m args below meth c H locs cells slots (MQ below Qc args s mc ms free) g) : W p l e R s m args below meth c H locs cells slots (vx_MQ below Qc XC args s mc ms free) g := by
  intro T hT X
  obtain ⟨t, a1, o, b1, b2, b3, b4⟩ := k T hT X
  exact ⟨t, a1, o, b1, b2, Or.inl ⟨b3, b4⟩⟩
/-- not caught here: it goes on to the caller -/
theorem vx_widen {g : JFrame} {q : Addr} {k n : Nat} (h1 : cells ≤ k) (h2 : slots ≤ n) (kk : vx_W p l e R s m args below meth c H locs k n Q g q) : vx_W p l e R s m args below meth c H locs cells slots Q g q := fun T hT X => kk T hT (stand_widen X h1 h2)
theorem vx_out {pc : Nat} {E : String} {ce : Cell} {q : Addr} {mc ms : Nat} (hout : ∀ x ∈ c.exceptionTable.toList, covers x pc = false) (hlocks : meth.locks = false) (hcell : H[q]? = some ce) (hv : ce.vm = .none) (hcl : s.vm.findClass E = some ce.cls)
    (hx : ∀ t : State, t.heap = H → s.vm.Alike t.vm → XC E s t) (hf : ∀ z ∈ locs, free z.base) (hc : cells ≤ mc) (hs : slots ≤ ms) :
    vx_W p l e R s m args below meth c H locs cells slots (vx_MQ below Qc XC args s mc ms free) (F0 m pc ls rest) q := by
  intro T hT X
  obtain ⟨st1, hrun, hend, hW, hsm⟩ := X.leaveThrown q (g := F0 m pc ls rest) rfl rfl rfl hout hlocks
  have hcell9 : (T.setFrames (.throwing q :: below)).heap[q]? = some ce := by
    show T.heap[q]? = some ce
    rw [hT]; exact hcell
  exact ⟨_, st1, .threw q, hrun, hend, Or.inr ⟨q, rfl, E, ce, locs, hx _ hT hW.alike, hcell9, hv, hcl, hW, hsm.mono hc hs, hf⟩⟩
theorem vx_frame {U : State} {k n : Nat} (h : s.sameButNew ({ U with vm := s.vm } : State) locs k n) : s.heap.size ≤ U.heap.size ∧ ∀ q : Nat, q < s.heap.size → (∀ z ∈ locs, z.base ≠ q) → U.heap[q]? = s.heap[q]? := by
  obtain ⟨-, h2, -, -, -, h6⟩ := h
  refine ⟨h2, fun q hq hz => ?_⟩
  obtain ⟨c9, e1, e2, e3, e4⟩ := h6 q _ (Array.getElem?_eq_getElem hq)
  have hs : c9.slots = (s.heap[q]).slots := Array.ext_getElem? fun i => e4 i fun hm => hz _ hm rfl
  have h9 : c9 = s.heap[q] := by
    rw [hs] at e2
    exact e2
  have e5 : U.heap[q]? = some c9 := e1
  rw [e5, h9, Array.getElem?_eq_getElem hq]
/-- the words of a throw but the four that speak of the heap -/
def vx_no (w : Cond) : Bool := decide (w ≠ .isRef (.static Bundle.tN "UNASSIGNED_STACK" Bundle.steD)) && decide (w ≠ .isRef (.static Bundle.tN "SUPPRESSED_SENTINEL" Bundle.listD)) && decide (w ≠ .laysStatic Bundle.tN "UNASSIGNED_STACK" Bundle.steD) && decide (w ≠ .laysStatic Bundle.tN "SUPPRESSED_SENTINEL" Bundle.listD)
def vx_at0 (own : String) (ic : Nat) (X : String) (names : List String) : List Cond := (Bundle.ownAtoms0 own ic X names).filter vx_no
def vx_atS (own : String) (ic : Nat) (X : String) (names : List String) : List Cond := (Bundle.ownAtoms own ic X names).filter vx_no
/-- a word that the tables alone decide, or a good one -/
def vx_ot (w : Cond) : Bool := w.onTables || goodWord w
theorem vx_ot_at {args a' : Array Value} {s U : State} {w : Cond} (hW : s.WarmedH U.vm) (hvm : s.vm = U.vm) (hg : vx_ot w = true) (h : w.before args s = true) : w.before a' U = true := by
  simp only [vx_ot, Bool.or_eq_true] at hg
  rcases hg with hg | hg
  · exact va_tabs hg hvm h
  · exact word_at hW (good_of_word hg) h
/-- a list's words: the good ones out of the method's own list, the others by premises of their own -/
theorem vx_hat {args : Array Value} {s : State} {L B : List Cond} (h1 : ∀ w ∈ L.filter goodWord, w.before args s = true) (h2 : ∀ w ∈ L.filter (fun w => !goodWord w), w ∈ B) (h3 : ∀ w ∈ B, w.before args s = true) : ∀ w ∈ L, w.before args s = true := by
  intro w hw
  by_cases g : goodWord w = true
  · exact h1 w (List.mem_filter.mpr ⟨hw, g⟩)
  · refine h3 w (h2 w (List.mem_filter.mpr ⟨hw, ?_⟩))
    show (!goodWord w) = true
    cases hgw : goodWord w
    · rfl
    · exact absurd hgw g
theorem vx_c {args : Array Value} {s : State} {w : Cond} {B : List Cond} (h : w.before args s = true) (t : ∀ w ∈ B, w.before args s = true) : ∀ w' ∈ w :: B, w'.before args s = true := fun w' h' => (List.mem_cons.mp h').elim (fun e => by rw [e]; exact h) (t w')
theorem vx_n {args : Array Value} {s : State} : ∀ w ∈ ([] : List Cond), w.before args s = true := fun _ h => nomatch h
theorem vx_own {args : Array Value} {s : State} {L : List Cond} (h1 : ∀ w ∈ L.filter vx_no, w.before args s = true)
    (hU : (Cond.isRef (.static Bundle.tN "UNASSIGNED_STACK" Bundle.steD)).before args s = true) (hN : (Cond.isRef (.static Bundle.tN "SUPPRESSED_SENTINEL" Bundle.listD)).before args s = true)
    (lU : (Cond.laysStatic Bundle.tN "UNASSIGNED_STACK" Bundle.steD).before args s = true) (lN : (Cond.laysStatic Bundle.tN "SUPPRESSED_SENTINEL" Bundle.listD).before args s = true) : ∀ w ∈ L, w.before args s = true := by
  intro w hw
  by_cases e1 : w = .isRef (.static Bundle.tN "UNASSIGNED_STACK" Bundle.steD)
  · rw [e1]; exact hU
  · by_cases e2 : w = .isRef (.static Bundle.tN "SUPPRESSED_SENTINEL" Bundle.listD)
    · rw [e2]; exact hN
    · by_cases e3 : w = .laysStatic Bundle.tN "UNASSIGNED_STACK" Bundle.steD
      · rw [e3]; exact lU
      · by_cases e4 : w = .laysStatic Bundle.tN "SUPPRESSED_SENTINEL" Bundle.listD
        · rw [e4]; exact lN
        · exact h1 w (List.mem_filter.mpr ⟨hw, by unfold vx_no; rw [decide_eq_true e1, decide_eq_true e2, decide_eq_true e3, decide_eq_true e4]; rfl⟩)
/-- where a static field lies, its class's statics cell in H -/
def vx_L (C n d : String) (A : Nat → Prop) (U : State) (H : Heap) : Prop := ∃ (c : ClassId) (k : Class) (i : Nat) (f : Field) (a : Nat) (cell : Cell), U.vm.findClass C = some c ∧ U.fieldFound? C n d = some (c, k, i, f) ∧ f.isStatic = true ∧ k.statics = some a ∧ H[a]? = some cell ∧ cell.vm.isStatics = true ∧ cell.cls = c ∧ f.slot < cell.slots.size ∧ k.staticTypes[f.slot]? = some f.type ∧ ¬ A a
theorem vx_L.moved {C n d : String} {A : Nat → Prop} {u U : State} {H : Heap} (hvm : u.vm.Alike U.vm) (h : vx_L C n d A u H) : vx_L C n d A U H := by
  obtain ⟨c, k, i, f, a, cell, h1, h2, h3, h4, h5, h6, h7, h8, h9, h10⟩ := h
  obtain ⟨k', hi', he⟩ := State.fieldFound?_setVm hvm h2
  exact ⟨c, k', i, f, a, cell, by rw [hvm.findClass]; exact h1, hi', h3, by rw [he]; exact h4, h5, h6, h7, h8, by rw [he]; exact h9, h10⟩
theorem vx_L.kept {C n d : String} {A : Nat → Prop} {U : State} {H H1 : Heap} (h : vx_L C n d A U H) (hq : ∀ a : Nat, a < H.size → ¬ A a → H1[a]? = H[a]?) : vx_L C n d A U H1 := by
  obtain ⟨c, k, i, f, a, cell, h1, h2, h3, h4, h5, h6, h7, h8, h9, h10⟩ := h
  exact ⟨c, k, i, f, a, cell, h1, h2, h3, h4, by rw [hq a (Array.getElem?_eq_some_iff.mp h5).1 h10]; exact h5, h6, h7, h8, h9, h10⟩
theorem vx_L.narrow {C n d : String} {A B : Nat → Prop} {U : State} {H : Heap} (h : vx_L C n d A U H) (hAB : ∀ q, B q → A q) : vx_L C n d B U H := by
  obtain ⟨c, k, i, f, a, cell, h1, h2, h3, h4, h5, h6, h7, h8, h9, h10⟩ := h
  exact ⟨c, k, i, f, a, cell, h1, h2, h3, h4, h5, h6, h7, h8, h9, fun z => h10 (hAB _ z)⟩
theorem vx_L.word {C n d : String} {A : Nat → Prop} {s : State} {args : Array Value} (h : vx_L C n d A s s.heap) : (Cond.laysStatic C n d).before args s = true := by
  obtain ⟨c, k, i, f, a, cell, h1, h2, h3, h4, h5, h6, h7, h8, h9, -⟩ := h
  show (Cond.laysStatic C n d).holds args s none s [] = true
  exact Cond.laysStatic_of h1 h2 h3 h4 h5 h6 h7 h8 h9
/-- .. and what it holds: null or some reference -/
def vx_Zq (C n d : String) (A : Nat → Prop) (U : State) (H : Heap) : Prop := va_Zq C n d A U H ∧ vx_L C n d A U H
theorem vx_Zq.moved {C n d : String} {A : Nat → Prop} {u U : State} {H : Heap} (hvm : u.vm.Alike U.vm) (h : vx_Zq C n d A u H) : vx_Zq C n d A U H := ⟨va_Zq.moved hvm h.1, vx_L.moved hvm h.2⟩
theorem vx_Zq.kept {C n d : String} {A : Nat → Prop} {U : State} {H H1 : Heap} (h : vx_Zq C n d A U H) (hq : ∀ a : Nat, a < H.size → ¬ A a → H1[a]? = H[a]?) : vx_Zq C n d A U H1 := ⟨va_Zq.kept h.1 hq, vx_L.kept h.2 hq⟩
theorem vx_Zq.narrow {C n d : String} {A B : Nat → Prop} {U : State} {H : Heap} (h : vx_Zq C n d A U H) (hAB : ∀ q, B q → A q) : vx_Zq C n d B U H := ⟨va_Zq.narrow h.1 hAB, vx_L.narrow h.2 hAB⟩
theorem vx_Zqof {args : Array Value} {s : State} {C n d : String} {A : Nat → Prop} (hl : (Cond.laysStatic C n d).before args s = true) (hini : (Cond.initialized C).before args s = true) (h : (Cond.isRef (.static C n d)).before args s = true) (hA : ∀ a : Nat, a < s.heap.size → ¬ A a) : vx_Zq C n d A s s.heap := by
  refine ⟨va_Zqof hl hini h hA, ?_⟩
  obtain ⟨c, k, i, f, a, cell, h1, h2, h3, h4, h5, h6, h7, h8, h9⟩ := Cond.laysStatic_spec hl
  exact ⟨c, k, i, f, a, cell, h1, h2, h3, h4, h5, h6, h7, h8, h9, hA a (Array.getElem?_eq_some_iff.mp h5).1⟩
theorem vx_isRef {C n d : String} {v : Value} {A : Nat → Prop} {s : State} {args : Array Value} (h : va_Z C n d v A s s.heap) (hv : v.isRef = true) : (Cond.isRef (.static C n d)).before args s = true := by
  obtain ⟨cf, kf, fi, f, a, cell, h1, h2, h3, h4, h5, h6, h7, -⟩ := h
  have he : (Term.static C n d).eval args s none [] s = some v := by
    simp [Term.eval, State.fieldNamed?, h1, h2, h4, h5, h6, h7]
  simp only [Cond.before, Cond.holds, Cond.value, he]
  cases v <;> simp_all [Value.isRef]
theorem vx_isRefq {C n d : String} {A : Nat → Prop} {s : State} {args : Array Value} (h : va_Zq C n d A s s.heap) : (Cond.isRef (.static C n d)).before args s = true := by
  rcases h with h | ⟨t, h⟩
  · exact vx_isRef h rfl
  · exact vx_isRef h rfl
/-- the same frame, seen from here: as if the method were called anew in this heap -/
theorem vx_rebase {T : State} (X : Stand p l e R s m args below meth c T locs cells slots) {R' : Room} (hf : R'.frames ≤ R.frames) (hl : R'.locals ≤ R.locals) (hc : cells + R'.cells ≤ R.cells) (hs : slots + R'.slots ≤ R.slots) :
    Stand p l e R' ((T.setVm s.vm).setFrames (.invoking m args :: below)) m args below meth c T [] 0 0 := by
  have htop : (T.setVm s.vm).topJava?.isSome := X.here.top
  have hF : ((T.setVm s.vm).setFrames (.invoking m args :: below)).frames = .invoking m args :: below := State.frames_setFrames _ (State.cur_lt_of_top htop)
  obtain ⟨g₀, hg0⟩ := Option.isSome_iff_exists.mp htop
  obtain ⟨r, hr⟩ := State.topJava?_eq_some.mp hg0
  have hl9 : e.platform.stackLimits (T.setVm s.vm).me = e.platform.stackLimits s.me := X.limits
  have hb9 : (T.setVm s.vm).me.stackBytes = s.me.stackBytes := X.bytes
  refine ⟨X.admits, X.cas, X.clock, hF, ?_, X.hears, X.method, X.code, X.here, X.tail, X.warmed, ?_, ?_, ?_⟩
  · have h := X.room
    have hU : ((T.setVm s.vm).setFrames (.invoking m args :: below)).localsInUse = s.localsInUse := by
      rw [State.localsInUse_invoking hF (meth := meth) (c := c) X.method X.code, State.localsInUse_invoking X.frames X.method X.code]
    simp only [State.hasRoom, Bool.and_eq_true, decide_eq_true_eq] at h ⊢
    obtain ⟨⟨⟨⟨h1, h2, h3, h4, h5, h6⟩, h7⟩, h8⟩, h9⟩ := h
    rw [X.frames, List.length_cons] at h2 h3
    have q1 := X.heapSize
    have q2 := X.used
    simp only [hF, hU, List.length_cons, State.stackLimits_setFrames, State.stackBytes_setFrames, hl9, hb9]
    refine ⟨⟨⟨⟨by omega, by omega, by omega, by omega, by omega, h6⟩, ?_⟩, ?_⟩, X.book⟩
    · show T.heap.size + R'.cells ≤ e.platform.maxCells
      omega
    · show T.slotsUsed + R'.slots ≤ e.platform.maxSlots
      omega
  · rw [State.stackLimits_setFrames]; rfl
  · rw [State.stackBytes_setFrames]; rfl
  · refine ⟨?_, Nat.le_refl _, Nat.le_refl _, ?_, ?_, fun a c9 h9 => ⟨c9, h9, rfl, rfl, fun _ _ => rfl⟩⟩
    · obtain ⟨t, ht, -⟩ := State.frames_cons hr
      show T.setVm s.vm = { ((T.setVm s.vm).setFrames (.invoking m args :: below)).setFrames (T.setVm s.vm).frames with heap := T.heap, slotsUsed := T.slotsUsed }
      rw [State.setFrames_setFrames, State.setFrames_self ht]
      rfl
    · show T.slotsUsed = T.slotsUsed + ((T.heap.toList.drop T.heap.size).map (·.slots.size)).sum
      rw [List.drop_eq_nil_of_le (Nat.le_of_eq Array.length_toList)]
      rfl
    · show ((T.heap.toList.drop T.heap.size).map (·.slots.size)).sum ≤ 0
      rw [List.drop_eq_nil_of_le (Nat.le_of_eq Array.length_toList)]
      exact Nat.le_refl _
/-- 'throw new E()': new; dup; invokespecial; athrow -/
theorem vx_throw0 {cc : ByteArray} {pc : Nat} (hexec : p.tables.exec = Jvm.exec) (hb : c.code = cc) (hl : l.stackTraces = false) {own cls : String} {names : List String} {ik ic mc ms : Nat} {A : Nat → Prop}
    (hown : s.vm.findClass own = some m.cls) (hcls : Bundle.fit cls = true) (hnames : ∀ n ∈ names, Bundle.fit n = true)
    (hk : (Cond.classLink own ik cls).before args s = true) (hini : (Cond.initialized cls).before args s = true) (hat : ∀ w ∈ vx_at0 own ic cls names, w.before args s = true)
    (hgood : ∀ w ∈ Cond.classLink own ik cls :: Cond.initialized cls :: vx_at0 own ic cls names, vx_ot w = true)
    (hU : vx_Zq Bundle.tN "UNASSIGNED_STACK" Bundle.steD A s s.heap) (hN : vx_Zq Bundle.tN "SUPPRESSED_SENTINEL" Bundle.listD A s s.heap) (hS : va_S A s.heap H locs) (hsize : ls.size = c.maxLocals)
    (d0 : decode cc pc = .ok (.new ik, 3)) (d3 : decode cc (pc + 3) = .ok (.dup, 1)) (d4 : decode cc (pc + 4) = .ok (.invokespecial ic, 3)) (d7 : decode cc (pc + 7) = .ok (.athrow, 1))
    (hout : ∀ x ∈ c.exceptionTable.toList, covers x (pc + 7) = false)
    (hRframes : names.length + 3 < R.frames) (hRlocals : (rest.map fun v => v.category).sum + (13 * (names.length + 1) + 42) ≤ R.locals) (hRcells : cells + 1 ≤ R.cells) (hRslots : slots + 6 ≤ R.slots) (hlocks : meth.locks = false)
    (hx : ∀ t : State, s.vm.Alike t.vm → H.size ≤ t.heap.size → (∀ q : Nat, q < H.size → t.heap[q]? = H[q]?) → XC cls s t)
    (hf : ∀ z ∈ locs, free z.base) (hc : cells + 1 ≤ mc) (hs : slots + 6 ≤ ms) :
    W p l e R s m args below meth c H locs cells slots (vx_MQ below Qc XC args s mc ms free) (F0 m pc ls rest) := by
  intro T hT X
  have htr : e.platform.stackTraces = false := (show e.platform.stackTraces = l.stackTraces by rw [X.admits.platform]).trans hl
  have Y := vx_rebase X (R' := { frames := R.frames, locals := R.locals, cells := 1, slots := 6 }) (Nat.le_refl _) (Nat.le_refl _) hRcells hRslots
  obtain ⟨s', hA⟩ : ∃ z, z = (T.setVm s.vm).setFrames (.invoking m args :: below) := ⟨_, rfl⟩
  rw [← hA] at Y
  have hvm : s'.vm = s.vm := by rw [hA]; rfl
  have hhp : s'.heap = H := by rw [hA]; exact hT
  have hW0 : s.WarmedH s'.vm := by rw [hvm]; exact State.WarmedH.refl s
  have hat' : ∀ w ∈ vx_at0 own ic cls names, w.before args s' = true := fun w hw => vx_ot_at hW0 hvm.symm (hgood w (List.mem_cons_of_mem _ (List.mem_cons_of_mem _ hw))) (hat w hw)
  have hk' : (Cond.classLink own ik cls).before args s' = true := vx_ot_at hW0 hvm.symm (hgood _ List.mem_cons_self) hk
  have hini' : (Cond.initialized cls).before args s' = true := vx_ot_at hW0 hvm.symm (hgood _ (List.mem_cons_of_mem _ List.mem_cons_self)) hini
  have hU' : vx_Zq Bundle.tN "UNASSIGNED_STACK" Bundle.steD A s' s'.heap := by rw [hhp]; exact vx_Zq.moved hW0.alike (hU.kept hS.2.1)
  have hN' : vx_Zq Bundle.tN "SUPPRESSED_SENTINEL" Bundle.listD A s' s'.heap := by rw [hhp]; exact vx_Zq.moved hW0.alike (hN.kept hS.2.1)
  have h : ∀ w ∈ Bundle.ownAtoms0 own ic cls names, w.before args s' = true := vx_own hat' (vx_isRefq hU'.1) (vx_isRefq hN'.1) hU'.2.word hN'.2.word
  have hown' : s'.vm.findClass own = some m.cls := by rw [hvm]; exact hown
  have hins : (Cond.instantiable cls 6).before args s' = true := h _ (by simp [Bundle.ownAtoms0])
  obtain ⟨vm₁, cX, kX, hfX, hkX, -, -, X₁, st1⟩ := Y.newCold hexec (own := own) (C := cls) (index := ik) (n := 6) hown' hk' hins hini'
    (g := F0 m pc ls rest) rfl (by rw [hb]; exact d0) (Nat.le_refl _) (Nat.le_refl _)
  generalize hT1 : (T.setVm vm₁).pushCell { cls := cX, slots := kX.instanceTypes.map defaultValue, vm := .none } = T1 at X₁ st1
  have hcat : (Value.ref T.heap.size).category = 1 := rfl
  have hcellA : T1.heap[T.heap.size]? = some (freshCell cX kX) := by rw [← hT1]; exact State.heap_pushCell_size _ _
  have d3' : decode c.code (pc + 3) = .ok (.dup, 1) := by rw [hb]; exact d3
  obtain ⟨U, hsteps, hrun, hend, hW, hsame, ce, hce, hO⟩ := X₁.ctorThrow0 hexec htr (own := own) (cls := cls) (names := names) (ic := ic) hown' hcls hnames h (fun x hx => nomatch hx) hfX hkX hcellA (by rw [hhp, hT]; exact Nat.le_refl _)
    (g := { method := m, pc := pc + 4, locals := ls, stack := .ref T.heap.size :: .ref T.heap.size :: rest, locked := none }) rfl hsize rfl rfl (rest := rest) rfl
    (by rw [hb]; exact d4) (by rw [hb]; exact d7) hout hRframes (by simp only [List.map_cons, List.sum_cons, hcat]; omega) hlocks
  obtain ⟨f1, f2⟩ := vx_frame hsame
  rw [hhp] at f1 f2
  have hWs : s.WarmedH U.vm := State.WarmedH.trans hW0 hW
  have hcl : s.vm.findClass cls = some ce.cls := by
    have h9 := hO.cls
    rw [hvm] at h9
    exact h9
  have hall : s.sameButNew ({ U with vm := s.vm } : State) locs mc ms := by
    subst hA
    obtain ⟨e1, e2⟩ := hsame
    rw [State.setFrames_setFrames] at e1
    have h2 : (T.setVm s.vm).sameButNew ({ U with vm := s.vm } : State) [] (0 + 1) (0 + 6) := ⟨e1, e2⟩
    have h3 := X.same.trans h2
    rw [List.append_nil] at h3
    exact h3.mono hc hs
  refine ⟨U, ?_, .threw T.heap.size, hrun, hend, Or.inr ⟨T.heap.size, rfl, cls, ce, locs, hx U hWs.alike f1 (fun q hq => f2 q hq (fun z hz => nomatch hz)), hce, hO.vm, hcl, hWs, hall, hf⟩⟩
  refine st1 _ ?_
  show Steps p.tables e below (T1.setTop { method := m, pc := pc + 3, locals := ls, stack := .ref T.heap.size :: rest, locked := none }) _
  jvm_step X₁.here [X₁.here.top, hexec, d3', Value.category]
  exact hsteps
/-- 'throw new E("text")': new; dup; ldc; invokespecial; athrow -/
theorem vx_throwS {cc : ByteArray} {pc : Nat} (hexec : p.tables.exec = Jvm.exec) (hb : c.code = cc) (hl : l.stackTraces = false) {own cls text : String} {names : List String} {ik is ic mc ms sa : Nat} {A : Nat → Prop}
    (hown : s.vm.findClass own = some m.cls) (hcls : Bundle.fit cls = true) (hnames : ∀ n ∈ names, Bundle.fit n = true)
    (hk : (Cond.classLink own ik cls).before args s = true) (hini : (Cond.initialized cls).before args s = true) (hstr : vk_R own is text sa s) (hat : ∀ w ∈ vx_atS own ic cls names, w.before args s = true)
    (hgood : ∀ w ∈ Cond.classLink own ik cls :: Cond.initialized cls :: vx_atS own ic cls names, vx_ot w = true)
    (hU : vx_Zq Bundle.tN "UNASSIGNED_STACK" Bundle.steD A s s.heap) (hN : vx_Zq Bundle.tN "SUPPRESSED_SENTINEL" Bundle.listD A s s.heap) (hS : va_S A s.heap H locs) (hsize : ls.size = c.maxLocals)
    (d0 : decode cc pc = .ok (.new ik, 3)) (d3 : decode cc (pc + 3) = .ok (.dup, 1)) (d4 : decode cc (pc + 4) = .ok (.ldc is, 2)) (d6 : decode cc (pc + 6) = .ok (.invokespecial ic, 3)) (d9 : decode cc (pc + 9) = .ok (.athrow, 1))
    (hout : ∀ x ∈ c.exceptionTable.toList, covers x (pc + 9) = false)
    (hRframes : names.length + 3 < R.frames) (hRlocals : (rest.map fun v => v.category).sum + (13 * (names.length + 1) + 43) ≤ R.locals) (hRcells : cells + 1 ≤ R.cells) (hRslots : slots + 6 ≤ R.slots) (hlocks : meth.locks = false)
    (hx : ∀ t : State, s.vm.Alike t.vm → H.size ≤ t.heap.size → (∀ q : Nat, q < H.size → t.heap[q]? = H[q]?) → XC cls s t)
    (hf : ∀ z ∈ locs, free z.base) (hc : cells + 1 ≤ mc) (hs : slots + 6 ≤ ms) :
    W p l e R s m args below meth c H locs cells slots (vx_MQ below Qc XC args s mc ms free) (F0 m pc ls rest) := by
  intro T hT X
  have htr : e.platform.stackTraces = false := (show e.platform.stackTraces = l.stackTraces by rw [X.admits.platform]).trans hl
  have Y := vx_rebase X (R' := { frames := R.frames, locals := R.locals, cells := 1, slots := 6 }) (Nat.le_refl _) (Nat.le_refl _) hRcells hRslots
  obtain ⟨s', hA⟩ : ∃ z, z = (T.setVm s.vm).setFrames (.invoking m args :: below) := ⟨_, rfl⟩
  rw [← hA] at Y
  have hvm : s'.vm = s.vm := by rw [hA]; rfl
  have hhp : s'.heap = H := by rw [hA]; exact hT
  have hW0 : s.WarmedH s'.vm := by rw [hvm]; exact State.WarmedH.refl s
  have hat' : ∀ w ∈ vx_atS own ic cls names, w.before args s' = true := fun w hw => vx_ot_at hW0 hvm.symm (hgood w (List.mem_cons_of_mem _ (List.mem_cons_of_mem _ hw))) (hat w hw)
  have hk' : (Cond.classLink own ik cls).before args s' = true := vx_ot_at hW0 hvm.symm (hgood _ List.mem_cons_self) hk
  have hini' : (Cond.initialized cls).before args s' = true := vx_ot_at hW0 hvm.symm (hgood _ (List.mem_cons_of_mem _ List.mem_cons_self)) hini
  have hU' : vx_Zq Bundle.tN "UNASSIGNED_STACK" Bundle.steD A s' s'.heap := by rw [hhp]; exact vx_Zq.moved hW0.alike (hU.kept hS.2.1)
  have hN' : vx_Zq Bundle.tN "SUPPRESSED_SENTINEL" Bundle.listD A s' s'.heap := by rw [hhp]; exact vx_Zq.moved hW0.alike (hN.kept hS.2.1)
  have h : ∀ w ∈ Bundle.ownAtoms own ic cls names, w.before args s' = true := vx_own hat' (vx_isRefq hU'.1) (vx_isRefq hN'.1) hU'.2.word hN'.2.word
  have hown' : s'.vm.findClass own = some m.cls := by rw [hvm]; exact hown
  have hins : (Cond.instantiable cls 6).before args s' = true := h _ (by simp [Bundle.ownAtoms])
  obtain ⟨vm₁, cX, kX, hfX, hkX, -, -, X₁, st1⟩ := Y.newCold hexec (own := own) (C := cls) (index := ik) (n := 6) hown' hk' hins hini'
    (g := F0 m pc ls rest) rfl (by rw [hb]; exact d0) (Nat.le_refl _) (Nat.le_refl _)
  generalize hT1 : (T.setVm vm₁).pushCell { cls := cX, slots := kX.instanceTypes.map defaultValue, vm := .none } = T1 at X₁ st1
  have hcat : (Value.ref T.heap.size).category = 1 := rfl
  have hcellA : T1.heap[T.heap.size]? = some (freshCell cX kX) := by rw [← hT1]; exact State.heap_pushCell_size _ _
  have d3' : decode c.code (pc + 3) = .ok (.dup, 1) := by rw [hb]; exact d3
  have d4' : decode c.code (pc + 4) = .ok (.ldc is, 2) := by rw [hb]; exact d4
  have hstr' : vk_R own is text sa s' := vk_R.warm hW0 hstr
  obtain ⟨U, hsteps, hrun, hend, hW, hsame, ce, hce, hO⟩ := X₁.ctorThrowS hexec htr (own := own) (cls := cls) (names := names) (ic := ic) hown' hcls hnames h (fun x hx => nomatch hx) hfX hkX hcellA (by rw [hhp, hT]; exact Nat.le_refl _) (msg := .ref sa) rfl
    (g := { method := m, pc := pc + 6, locals := ls, stack := .ref sa :: .ref T.heap.size :: .ref T.heap.size :: rest, locked := none }) rfl hsize rfl rfl (rest := rest) rfl
    (by rw [hb]; exact d6) (by rw [hb]; exact d9) hout hRframes (by simp only [List.map_cons, List.sum_cons, hcat]; omega) hlocks
  obtain ⟨f1, f2⟩ := vx_frame hsame
  rw [hhp] at f1 f2
  have hWs : s.WarmedH U.vm := State.WarmedH.trans hW0 hW
  have hcl : s.vm.findClass cls = some ce.cls := by
    have h9 := hO.cls
    rw [hvm] at h9
    exact h9
  have hall : s.sameButNew ({ U with vm := s.vm } : State) locs mc ms := by
    subst hA
    obtain ⟨e1, e2⟩ := hsame
    rw [State.setFrames_setFrames] at e1
    have h2 : (T.setVm s.vm).sameButNew ({ U with vm := s.vm } : State) [] (0 + 1) (0 + 6) := ⟨e1, e2⟩
    have h3 := X.same.trans h2
    rw [List.append_nil] at h3
    exact h3.mono hc hs
  refine ⟨U, ?_, .threw T.heap.size, hrun, hend, Or.inr ⟨T.heap.size, rfl, cls, ce, locs, hx U hWs.alike f1 (fun q hq => f2 q hq (fun z hz => nomatch hz)), hce, hO.vm, hcl, hWs, hall, hf⟩⟩
  refine st1 _ ?_
  show Steps p.tables e below (T1.setTop { method := m, pc := pc + 3, locals := ls, stack := .ref T.heap.size :: rest, locked := none }) _
  jvm_step X₁.here [X₁.here.top, hexec, d3', Value.category]
  exact X₁.ldcString hexec (own := own) (text := text) (index := is) (a := sa) hown' hstr'.1 hstr'.2
    (g := { method := m, pc := pc + 4, locals := ls, stack := .ref T.heap.size :: .ref T.heap.size :: rest, locked := none }) rfl d4' _ hsteps
/-- 'throw new E("text")', the text by a wide index -/
theorem vx_throwSW {cc : ByteArray} {pc : Nat} (hexec : p.tables.exec = Jvm.exec) (hb : c.code = cc) (hl : l.stackTraces = false) {own cls text : String} {names : List String} {ik is ic mc ms sa : Nat} {A : Nat → Prop}
    (hown : s.vm.findClass own = some m.cls) (hcls : Bundle.fit cls = true) (hnames : ∀ n ∈ names, Bundle.fit n = true)
    (hk : (Cond.classLink own ik cls).before args s = true) (hini : (Cond.initialized cls).before args s = true) (hstr : vk_R own is text sa s) (hat : ∀ w ∈ vx_atS own ic cls names, w.before args s = true)
    (hgood : ∀ w ∈ Cond.classLink own ik cls :: Cond.initialized cls :: vx_atS own ic cls names, vx_ot w = true)
    (hU : vx_Zq Bundle.tN "UNASSIGNED_STACK" Bundle.steD A s s.heap) (hN : vx_Zq Bundle.tN "SUPPRESSED_SENTINEL" Bundle.listD A s s.heap) (hS : va_S A s.heap H locs) (hsize : ls.size = c.maxLocals)
    (d0 : decode cc pc = .ok (.new ik, 3)) (d3 : decode cc (pc + 3) = .ok (.dup, 1)) (d4 : decode cc (pc + 4) = .ok (.ldc_w is, 3)) (d7 : decode cc (pc + 7) = .ok (.invokespecial ic, 3)) (d10 : decode cc (pc + 10) = .ok (.athrow, 1))
    (hout : ∀ x ∈ c.exceptionTable.toList, covers x (pc + 10) = false)
    (hRframes : names.length + 3 < R.frames) (hRlocals : (rest.map fun v => v.category).sum + (13 * (names.length + 1) + 43) ≤ R.locals) (hRcells : cells + 1 ≤ R.cells) (hRslots : slots + 6 ≤ R.slots) (hlocks : meth.locks = false)
    (hx : ∀ t : State, s.vm.Alike t.vm → H.size ≤ t.heap.size → (∀ q : Nat, q < H.size → t.heap[q]? = H[q]?) → XC cls s t)
    (hf : ∀ z ∈ locs, free z.base) (hc : cells + 1 ≤ mc) (hs : slots + 6 ≤ ms) :
    W p l e R s m args below meth c H locs cells slots (vx_MQ below Qc XC args s mc ms free) (F0 m pc ls rest) := by
  intro T hT X
  have htr : e.platform.stackTraces = false := (show e.platform.stackTraces = l.stackTraces by rw [X.admits.platform]).trans hl
  have Y := vx_rebase X (R' := { frames := R.frames, locals := R.locals, cells := 1, slots := 6 }) (Nat.le_refl _) (Nat.le_refl _) hRcells hRslots
  obtain ⟨s', hA⟩ : ∃ z, z = (T.setVm s.vm).setFrames (.invoking m args :: below) := ⟨_, rfl⟩
  rw [← hA] at Y
  have hvm : s'.vm = s.vm := by rw [hA]; rfl
  have hhp : s'.heap = H := by rw [hA]; exact hT
  have hW0 : s.WarmedH s'.vm := by rw [hvm]; exact State.WarmedH.refl s
  have hat' : ∀ w ∈ vx_atS own ic cls names, w.before args s' = true := fun w hw => vx_ot_at hW0 hvm.symm (hgood w (List.mem_cons_of_mem _ (List.mem_cons_of_mem _ hw))) (hat w hw)
  have hk' : (Cond.classLink own ik cls).before args s' = true := vx_ot_at hW0 hvm.symm (hgood _ List.mem_cons_self) hk
  have hini' : (Cond.initialized cls).before args s' = true := vx_ot_at hW0 hvm.symm (hgood _ (List.mem_cons_of_mem _ List.mem_cons_self)) hini
  have hU' : vx_Zq Bundle.tN "UNASSIGNED_STACK" Bundle.steD A s' s'.heap := by rw [hhp]; exact vx_Zq.moved hW0.alike (hU.kept hS.2.1)
  have hN' : vx_Zq Bundle.tN "SUPPRESSED_SENTINEL" Bundle.listD A s' s'.heap := by rw [hhp]; exact vx_Zq.moved hW0.alike (hN.kept hS.2.1)
  have h : ∀ w ∈ Bundle.ownAtoms own ic cls names, w.before args s' = true := vx_own hat' (vx_isRefq hU'.1) (vx_isRefq hN'.1) hU'.2.word hN'.2.word
  have hown' : s'.vm.findClass own = some m.cls := by rw [hvm]; exact hown
  have hins : (Cond.instantiable cls 6).before args s' = true := h _ (by simp [Bundle.ownAtoms])
  obtain ⟨vm₁, cX, kX, hfX, hkX, -, -, X₁, st1⟩ := Y.newCold hexec (own := own) (C := cls) (index := ik) (n := 6) hown' hk' hins hini'
    (g := F0 m pc ls rest) rfl (by rw [hb]; exact d0) (Nat.le_refl _) (Nat.le_refl _)
  generalize hT1 : (T.setVm vm₁).pushCell { cls := cX, slots := kX.instanceTypes.map defaultValue, vm := .none } = T1 at X₁ st1
  have hcat : (Value.ref T.heap.size).category = 1 := rfl
  have hcellA : T1.heap[T.heap.size]? = some (freshCell cX kX) := by rw [← hT1]; exact State.heap_pushCell_size _ _
  have d3' : decode c.code (pc + 3) = .ok (.dup, 1) := by rw [hb]; exact d3
  have d4' : decode c.code (pc + 4) = .ok (.ldc_w is, 3) := by rw [hb]; exact d4
  have hstr' : vk_R own is text sa s' := vk_R.warm hW0 hstr
  obtain ⟨U, hsteps, hrun, hend, hW, hsame, ce, hce, hO⟩ := X₁.ctorThrowS hexec htr (own := own) (cls := cls) (names := names) (ic := ic) hown' hcls hnames h (fun x hx => nomatch hx) hfX hkX hcellA (by rw [hhp, hT]; exact Nat.le_refl _) (msg := .ref sa) rfl
    (g := { method := m, pc := pc + 7, locals := ls, stack := .ref sa :: .ref T.heap.size :: .ref T.heap.size :: rest, locked := none }) rfl hsize rfl rfl (rest := rest) rfl
    (by rw [hb]; exact d7) (by rw [hb]; exact d10) hout hRframes (by simp only [List.map_cons, List.sum_cons, hcat]; omega) hlocks
  obtain ⟨f1, f2⟩ := vx_frame hsame
  rw [hhp] at f1 f2
  have hWs : s.WarmedH U.vm := State.WarmedH.trans hW0 hW
  have hcl : s.vm.findClass cls = some ce.cls := by
    have h9 := hO.cls
    rw [hvm] at h9
    exact h9
  have hall : s.sameButNew ({ U with vm := s.vm } : State) locs mc ms := by
    subst hA
    obtain ⟨e1, e2⟩ := hsame
    rw [State.setFrames_setFrames] at e1
    have h2 : (T.setVm s.vm).sameButNew ({ U with vm := s.vm } : State) [] (0 + 1) (0 + 6) := ⟨e1, e2⟩
    have h3 := X.same.trans h2
    rw [List.append_nil] at h3
    exact h3.mono hc hs
  refine ⟨U, ?_, .threw T.heap.size, hrun, hend, Or.inr ⟨T.heap.size, rfl, cls, ce, locs, hx U hWs.alike f1 (fun q hq => f2 q hq (fun z hz => nomatch hz)), hce, hO.vm, hcl, hWs, hall, hf⟩⟩
  refine st1 _ ?_
  show Steps p.tables e below (T1.setTop { method := m, pc := pc + 3, locals := ls, stack := .ref T.heap.size :: rest, locked := none }) _
  jvm_step X₁.here [X₁.here.top, hexec, d3', Value.category]
  exact X₁.ldcStringW hexec (own := own) (text := text) (index := is) (a := sa) hown' hstr'.1 hstr'.2
    (g := { method := m, pc := pc + 4, locals := ls, stack := .ref T.heap.size :: .ref T.heap.size :: rest, locked := none }) rfl d4' _ hsteps
end Ends
section Bodies
variable {l : Launch}
theorem vx_ofW {y : MethodName} {ws ws' : List Cond} {rm : Room} {Pc : Array Value → State → Prop} {Qc : Array Value → State → Outcome → State → Prop} {XC : String → State → State → Prop} {mc ms : Nat} {free : Addr → Prop} {cc : ByteArray} {maxL : Nat} {ret : Option FieldType}
    (hy : plainName y.cls = true) (hw : ws = Cond.code y cc maxL ret :: ws')
    (body : ∀ p e s m args below meth c s₁, BodyLoose p l y (headSpec ws rm) cc maxL ret e s m args below meth c s₁ → c.maxLocals = maxL → (∀ x ∈ c.exceptionTable.toList, False) → Pc args s →
      W p l e (headSpec ws rm).room s m args below meth c s.heap [] 0 0 (vx_MQ below Qc XC args s mc ms free) (entryFrame m args maxL)) : vx_Met l y ws rm Pc Qc XC mc ms free := by
  refine MetFree.of_bodyS (code := cc) (maxLocals := maxL) (ret := ret) hy ?_ ?_
  · intro args s m h hn
    obtain ⟨meth, c, h1, h2, h3, h4, h5, h6, -, -⟩ := Cond.code_spec hn (atoms_spec (ws := ws) h _ (by rw [hw]; exact List.mem_cons_self))
    exact ⟨meth, c, h1, h2, h3, h4, h5, h6⟩
  · intro p e s m args below meth c s₁ B hml hP _
    have hh0 : s₁.heap = s.heap := by rw [B.state]; rfl
    have ht : ∀ x ∈ c.exceptionTable.toList, False := by
      obtain ⟨meth9, c9, h1, h2, -, -, -, -, h7, -⟩ := Cond.code_spec B.named (atoms_spec (ws := ws) B.pre _ (by rw [hw]; exact List.mem_cons_self))
      cases Option.some.inj (h1.symm.trans B.method)
      cases Option.some.inj (h2.symm.trans (Stand.of_body B).code)
      intro x hx
      rw [Array.isEmpty_iff.mp h7] at hx
      cases hx
    obtain ⟨t, a1, o, b1, b2, b3⟩ := body p e s m args below meth c s₁ B hml ht hP s₁ hh0 (Stand.of_body B)
    exact ⟨t, o, a1, b1, b2, b3⟩
/-- the table of a body with handlers -/
theorem vx_table {p : Program} {x y : MethodName} {S : Spec} {cc bytes : ByteArray} {maxL maxL' : Nat} {ret ret' : Option FieldType} {e : Env} {s s₁ : State} {m : MethodId} {args : Array Value} {below : List Frame} {meth : Method} {c : Code} {hh : List (Nat × Nat × Nat × Nat)}
    (B : BodyLoose p l y S cc maxL ret e s m args below meth c s₁) (h : (Cond.codeWith y bytes maxL' ret' hh).before args s = true) : c.exceptionTable.toList = tableOf hh := by
  obtain ⟨m9, meth9, c9, hn9, h1, h2, -, -, h6, -⟩ := Cond.codeWith_spec h
  cases Option.some.inj (hn9.symm.trans B.named)
  cases Option.some.inj (h1.symm.trans B.method)
  cases Option.some.inj (h2.symm.trans (Stand.of_body B).code)
  rw [← h6, table_eq]
end Bodies
end VXA
/-! ===== END ===== -/
/-! ===== BEGIN a static call of a method with an exception table ===== -/
section VXS
variable {p : Program} {l : Launch} {e : Env} {R : Room} {s : State} {m : MethodId} {args : Array Value} {below : List Frame} {meth : Method} {c : Code} {T : State} {H : Heap} {locs : List Loc} {cells slots : Nat}
abbrev vx_CSW (R : Room) (s : State) (args : Array Value) (own : String) (index : Nat) (y : MethodName) (bytes : ByteArray) (maxL : Nat) (ret : Option FieldType) (hh : List (Nat × Nat × Nat × Nat)) (ws : List Cond) (rm : Room) (mc ms n : Nat) : Prop :=
  (rm.cells = mc ∧ rm.slots = ms ∧ rm.frames + 1 ≤ R.frames ∧ 8 + (maxL + 11) + rm.locals ≤ R.locals ∧ (∀ w ∈ ws, ∀ (a' : Array Value) (U : State), s.WarmedH U.vm → w.before a' U = true) ∧ Cond.codeWith y bytes maxL ret hh ∈ ws) ∧
  (Cond.codeWith y bytes maxL ret hh).before args s = true ∧ (Cond.initialized y.cls).before args s = true ∧ (y.cls ≠ "java/lang/invoke/MethodHandle" ∧ y.cls ≠ "java/lang/invoke/VarHandle") ∧
  (∀ sig, parseMethodDescriptor y.desc = some sig → n = sig.parameters.length) ∧ (Cond.methodLink own index y).before args s = true ∧ (Cond.static y).before args s = true
theorem vx_cwSW {own : String} {index maxL mc ms : Nat} {y : MethodName} {bytes : ByteArray} {ret : Option FieldType} {hh : List (Nat × Nat × Nat × Nat)} {Ts ws ws' : List Cond} {rm : Room} (n : Nat) (ht : ∀ w ∈ Ts, w.before args s = true) (hT : GoodIn Ts (va_wsS own index y ws)) (hw : ws = Cond.codeWith y bytes maxL ret hh :: ws') (hrc : rm.cells = mc) (hrs : rm.slots = ms)
    (hd : y.cls ≠ "java/lang/invoke/MethodHandle" ∧ y.cls ≠ "java/lang/invoke/VarHandle" ∧ (parseMethodDescriptor y.desc).map (fun d => d.parameters.length) = some n) (hR : rm.frames + 1 ≤ R.frames ∧ 8 + (maxL + 11) + rm.locals ≤ R.locals) :
    vx_CSW R s args own index y bytes maxL ret hh ws rm mc ms n := by
  have ok : ∀ w ∈ va_wsS own index y ws, w.before args s = true := fun w h => ht w (hT w h).1
  have hG : GoodIn Ts ws := fun w h => hT w (by unfold va_wsS; exact List.mem_append_right _ h)
  have hc : Cond.codeWith y bytes maxL ret hh ∈ ws := by rw [hw]; exact List.mem_cons_self
  refine ⟨⟨hrc, hrs, hR.1, hR.2, pay_in ht hG, hc⟩, ht _ (hG _ hc).1, ok _ (by simp [va_wsS]), ⟨hd.1, hd.2.1⟩, fun sig h => ?_, ok _ (by simp [va_wsS]), ok _ (by simp [va_wsS])⟩
  have h2 := hd.2.2
  rw [h] at h2
  exact (Option.some.inj h2).symm
theorem vx_callSW (X : Stand p l e R s m args below meth c T locs cells slots) (hexec : p.tables.exec = Jvm.exec) {own : String} {index : Nat} {y : MethodName} {bytes : ByteArray} {maxL : Nat} {ret : Option FieldType} {hh : List (Nat × Nat × Nat × Nat)}
    (hown : s.vm.findClass own = some m.cls) (hlink : (Cond.methodLink own index y).before args s = true) (hstat : (Cond.static y).before args s = true) (hinit : (Cond.initialized y.cls).before args s = true)
    (hcode : (Cond.codeWith y bytes maxL ret hh).before args s = true) (hy : y.cls ≠ "java/lang/invoke/MethodHandle" ∧ y.cls ≠ "java/lang/invoke/VarHandle")
    {W9 : Nat} {Pre : Pt → Array Value → Prop} {Post : Pt → Array Value → Option Value → Pt → Prop} (hK : Back l R p e below s args y 3 W9 Pre Post)
    {g : JFrame} (hg : g.method = m) (hsize : g.locals.size = c.maxLocals) {argsL rest : List Value} (hlen : ∀ sig, parseMethodDescriptor y.desc = some sig → argsL.length = sig.parameters.length)
    (hstack : g.stack = argsL.reverse ++ rest) (hW : 2 * g.monitorRoom + (rest.map fun v => v.category).sum ≤ W9) (hdg : decode c.code g.pc = .ok (.invokestatic index, 3))
    (hpre : ∀ vm₁, s.WarmedH vm₁ → Pre ⟨T.setVm vm₁, locs, cells, slots⟩ argsL.toArray) :
    ∃ (v : Option Value) (vm₁ : Vm) (B : Pt), s.WarmedH vm₁ ∧ Stand p l e R s m args below meth c B.U B.locs B.cells B.slots ∧ Post ⟨T.setVm vm₁, locs, cells, slots⟩ argsL.toArray v B ∧
      ∀ target, Steps p.tables e below (B.U.setTop { g with pc := g.pc + 3, stack := v.toList ++ rest }) target → Steps p.tables e below (T.setTop g) target := by
  obtain ⟨mk, methM, cM, hnamed, hmethM, -, -, -, -, -, -, hsigM⟩ := Cond.codeWith_spec hcode
  have hstatic : methM.isStatic = true := Cond.static_spec hnamed hmethM hstat
  obtain ⟨kP, hkP, -⟩ := className_of_methodNamed hnamed
  have hinitP : kP.init = .initialized := Cond.initialized_spec (findClass_of_methodNamed hnamed) hkP hinit
  obtain ⟨vm₁, X₁, hstep₁⟩ := X.invokestatic hexec hown hlink hnamed hmethM hstatic hkP hinitP hy (g := g) hg (argsL := argsL) (rest := rest) (hlen _ hsigM) hstack hdg
  obtain ⟨v, B, X', hpost, hsteps⟩ := hK m meth c ⟨T.setVm vm₁, locs, cells, slots⟩ { g with stack := rest } (.invokestatic index) mk argsL.toArray X₁ hg hsize hdg hW (X₁.named hnamed) (hpre vm₁ X₁.warmed)
  exact ⟨v, vm₁, B, X₁.warmed, X', hpost, fun target h => hstep₁ _ fun acts => by rw [doInvoke_state]; exact hsteps.trans h⟩
theorem vx_runSW {y : MethodName} {bytes cc : ByteArray} {maxL nL mc ms n index : Nat} {ret : Option FieldType} {hh : List (Nat × Nat × Nat × Nat)} {ws : List Cond} {rm : Room} {Pc : Array Value → State → Prop} {Qc : Array Value → State → Outcome → State → Prop} {free : Addr → Prop} {Ts : List Cond} {own : String} {As rest : List Value} {g : JFrame}
    (S : CallFix p m c cc nL s args Ts own) (hM : Met l y ws rm Pc Qc mc ms free) (cw : vx_CSW R s args own index y bytes maxL ret hh ws rm mc ms n) (hp : PreS s H Pc As)
    (hg : g.method = m) (hn : As.length = n) (hsize : g.locals.size = nL) (hstack : g.stack = As.reverse ++ rest) (hW : 2 * g.monitorRoom + (rest.map fun v => v.category).sum ≤ 8) (hdg : decode cc g.pc = .ok (.invokestatic index, 3)) (hf : cells + mc ≤ R.cells ∧ slots + ms ≤ R.slots) :
    va_Run p l e R s m args below meth c H locs cells slots mc ms g rest (Qc As.toArray) (free) := by
  obtain ⟨⟨hrc, hrs, hfr, hlo, hws, hcw⟩, hcode, hini, hy, hlen, hl, hstt⟩ := cw
  have hK : Back l R p e below s args y 3 8 (PreOf R mc ms Pc) (PostOf Qc mc ms free) := va_backW (hh := hh) (bytes := bytes) (maxL := maxL) (ret := ret) hM hp.1 hrc hrs hfr hlo hws hcw (fun a' U hW => word_at hW (Or.inl (by first | rfl | simp [Cond.onTables, Cond.keeps, Cond.steady])) hini)
  obtain ⟨hx, hb, hml, ho, -⟩ := S
  intro T hT X
  obtain ⟨v, vm₁, ⟨U', l2, c2, s2⟩, hW₁, X', ⟨g', mk, t, L, e1, e2, hq, h1, hL, h2, h3⟩, st⟩ := vx_callSW X hx (hh := hh) (bytes := bytes) (maxL := maxL) (ret := ret) ho hl hstt hini hcode hy hK hg (hsize.trans hml.symm) (argsL := As) (rest := rest) (fun sig h => hn.trans (hlen sig h)) hstack hW (by rw [hb]; exact hdg)
    (fun vm₁ hW₁ => ⟨hf.1, hf.2, hp.2 (T.setVm vm₁) hT hW₁⟩)
  dsimp only [Pt.U, Pt.locs, Pt.cells, Pt.slots] at X' e1 e2 h1 h2 h3 st
  subst h1; subst h2; subst h3
  exact ⟨v, (T.setVm vm₁).calling g' mk As.toArray, t, U', L, hT, X', hL, e1, e2, hq, st⟩
/-- not caught here, past rows that name other classes: it goes on to the caller -/
theorem vx_outP {p : Program} {l : Launch} {e : Env} {R : Room} {s : State} {m : MethodId} {args : Array Value} {below : List Frame} {meth : Method} {c : Code} {H : Heap} {locs : List Loc} {cells slots : Nat} {free : Addr → Prop} {ls : Array Slot} {rest : List Value} {Qc : Array Value → State → Outcome → State → Prop} {XC : String → State → State → Prop}
    {pc : Nat} {own E : String} {ce : Cell} {q : Addr} {mc ms : Nat} (hown : s.vm.findClass own = some m.cls) (hlocks : meth.locks = false)
    (hpass : ∀ z ∈ c.exceptionTable.toList, covers z pc = false ∨ (z.catchType ≠ 0 ∧ ∃ nm : String, (Cond.classLink own z.catchType nm).before args s = true ∧ va_Nc E nm s)) (hcell : H[q]? = some ce) (hv : ce.vm = .none) (hcl : s.vm.findClass E = some ce.cls)
    (hx : ∀ t : State, t.heap = H → s.vm.Alike t.vm → XC E s t) (hf : ∀ z ∈ locs, free z.base) (hc : cells ≤ mc) (hs : slots ≤ ms) :
    vx_W p l e R s m args below meth c H locs cells slots (vx_MQ below Qc XC args s mc ms free) (F0 m pc ls rest) q := by
  intro T hT X
  have hpl : e.platform.magicAccessors = ({} : Platform).magicAccessors := by rw [X.admits.platform]
  obtain ⟨vm', hW', X', st⟩ := X.outThrough hlocks q (g := F0 m pc ls rest) rfl rfl rfl (cell := ce) (by rw [hT]; exact hcell) (by rw [hv]; rfl)
    (by obtain ⟨k9, h9, -⟩ := Vm.findClass_spec hcl; exact ⟨k9, h9⟩) (fun z hz => by
      rcases hpass z hz with h | ⟨hz0, nm, hl1, hn1⟩
      · exact Or.inl h
      · obtain ⟨c6, hc6, hcl6⟩ := Cond.classLink_spec hown hl1 e.platform hpl
        obtain ⟨a8, b8, h1, h2, h3⟩ := hn1
        cases Option.some.inj (h1.symm.trans hcl)
        cases Option.some.inj (h2.symm.trans hc6)
        exact Or.inr ⟨hz0, _, hcl6, h3⟩)
  obtain ⟨g₀, hfr⟩ := X'.frames_eq
  have hcell9 : ((T.setVm vm').setFrames (.throwing q :: below)).heap[q]? = some ce := by
    show T.heap[q]? = some ce
    rw [hT]; exact hcell
  have hend : Ended ((T.setVm vm').setFrames (.throwing q :: below)) below (.threw q) := State.frames_setFrames _ (State.cur_lt_of_frames hfr)
  refine ⟨(T.setVm vm').setFrames (.throwing q :: below), ?_, .threw q, X'.here.running, hend, Or.inr ⟨q, rfl, E, ce, locs, hx _ hT (X'.ends _).1.alike, hcell9, hv, hcl, (X'.ends _).1, (X'.ends _).2.mono hc hs, hf⟩⟩
  rw [X.pushThrowing_eq]
  exact st
/-- a thing of a world lies in the heap -/
theorem vx_lt {D : va_G} {cl : List vw_C} {ws : va_W} {H1 : Heap} (h : va_P D cl ws H1) {k : Nat} {q : Nat × va_E} (hk : ws[k]? = some q) : q.1 < H1.size := (h k q hk).lt
end VXS
/-! ===== END ===== -/
/-! ===== BEGIN methods with a table of their own: called by a name, returning or throwing ===== -/
section VXH
/-! vx_backW, vx_callVX, vx_callSX, vx_callVW, vx_runVW, vx_runVX, vx_runSX, vx_ofWH follow the same proofs as their sisters above (Free/Laws.lean, Shelf42/LK1.lean); vx_outP calls Shelf42/NT130.lean (outThrough). -/
section
variable {l : Launch} {R : Room} {p : Program} {e : Env} {below : List Frame} {s : State} {sargs : Array Value} {y : MethodName} {len W9 : Nat}
theorem vx_backW {ws : List Cond} {rm : Room} {Pc : Array Value → State → Prop} {Qc : Array Value → State → Outcome → State → Prop} {XC : String → State → State → Prop} {mc ms : Nat} {free : Addr → Prop} {bytes : ByteArray} {maxL : Nat} {ret : Option FieldType} {hh : List (Nat × Nat × Nat × Nat)}
    (hM : vx_Met l y ws rm Pc Qc XC mc ms free) (hblind : FrameBlind Pc) (hrc : rm.cells = mc) (hrs : rm.slots = ms)
    (hframes : rm.frames + 1 ≤ R.frames) (hlocals : W9 + (maxL + 11) + rm.locals ≤ R.locals)
    (hws : ∀ w ∈ ws, ∀ a' U, s.WarmedH U.vm → w.before a' U = true) (hcode : Cond.codeWith y bytes maxL ret hh ∈ ws) (hinit : ∀ a' U, s.WarmedH U.vm → (Cond.initialized y.cls).before a' U = true) :
    vx_Back l R p e below s sargs y len W9 (PreOf R mc ms Pc) (PostOf Qc mc ms free) (vx_Post XC mc ms free) := by
  intro m meth c A g ig mk a X hg hsize hdg hW hn hp
  have h1 : (headSpec ws rm).pre.before a A.U = true := atoms_intro fun w hw => hws w hw _ _ X.warmed
  have h2 : (Cond.codeWith y bytes maxL ret hh).before a A.U = true := hws _ hcode _ _ X.warmed
  have h3 : (Cond.initialized y.cls).before a A.U = true := hinit _ _ X.warmed
  have h4 : A.cells + (headSpec ws rm).room.cells ≤ R.cells := by rw [show (headSpec ws rm).room.cells = mc from hrc]; exact hp.1
  have h5 : A.slots + (headSpec ws rm).room.slots ≤ R.slots := by rw [show (headSpec ws rm).room.slots = ms from hrs]; exact hp.2.1
  have hPc : Pc a (A.U.calling g mk a) := hblind _ _ _ _ hp.2.2
  obtain ⟨U, Ls, c0, s0⟩ := A
  dsimp only [Pt.U, Pt.locs, Pt.cells, Pt.slots] at h1 h2 h3 h4 h5 X hn hPc ⊢
  obtain ⟨m9, methY, cY, hn9, hmY, hcY, -, hlY, -⟩ := Cond.codeWith_spec h2
  cases Option.some.inj (hn9.symm.trans hn)
  obtain ⟨kY, hkY, -⟩ := className_of_methodNamed hn
  have hinitY : kY.init = .initialized := Cond.initialized_spec (findClass_of_methodNamed hn) hkY h3
  have h : At U g.method c below := by rw [hg]; exact X.here
  have hlocals9 : W9 + (maxL + 11) + (headSpec ws rm).room.locals ≤ R.locals := hlocals
  have happ : (headSpec ws rm).appliesLoose y e.platform (U.calling g mk a) = true :=
    Spec.appliesLoose_calling (g := g) h hdg hn hkY hinitY
      (X.room_calling (g := g) (R' := (headSpec ws rm).room) hsize hmY hcY hframes (by rw [hlY]; omega) h4 h5) h1
  obtain ⟨mid, hmid⟩ := h.above
  have hfr : (U.setTop g).frames = (.java g :: mid) ++ below := by rw [State.frames_setTop' g h.top, hmid]; rfl
  obtain ⟨o, s₂, hsteps, -, hend, hq⟩ := Steps.callFree hM p X.admits X.cas X.clock (acts := []) hfr happ hPc trivial
  have hq' : vx_Q Qc XC mc ms free a (U.calling g mk a) o s₂ := hq
  rw [State.frames_setTop' g h.top] at hend
  obtain ⟨g₀, hg0⟩ := Option.isSome_iff_exists.mp h.top
  obtain ⟨r, hr⟩ := State.topJava?_eq_some.mp hg0
  have hr' : (({ U with heap := s₂.heap, slotsUsed := s₂.slotsUsed } : State).setVm s₂.vm).frames = .java g₀ :: r := hr
  rcases hq' with ⟨hqc, L, hfe, hL⟩ | ⟨q, rfl, E, ce, L, hx, hce, hcv, hcl, hW₂, hsm, hL⟩
  · obtain ⟨⟨v, rfl⟩, hW₂, e2, q2, q3, q4, q5, q6⟩ := id hfe
    have e3 : s₂ = ({ (U.calling g mk a).setFrames s₂.frames with heap := s₂.heap, slotsUsed := s₂.slotsUsed } : State).setVm s₂.vm := by
      have : s₂ = ({ s₂ with vm := (U.calling g mk a).vm } : State).setVm s₂.vm := rfl
      rw [e2] at this
      exact this
    obtain ⟨c₂, i₂, len₂, hc₂, hd₂, hf₂⟩ := hend
    have hW' : U.WarmedH s₂.vm := hW₂
    have hcc : c₂ = c := by
      have h1 : s₂.code? g.method = U.code? g.method := by
        rw [State.code?_eq, State.code?_eq, hW'.alike.method?]
      exact Option.some.inj (hc₂.symm.trans (h1.trans h.code))
    subst hcc
    have hlen : len₂ = len := by rw [hdg] at hd₂; cases hd₂; rfl
    subst hlen
    have hs₂ : s₂ = (({ U with heap := s₂.heap, slotsUsed := s₂.slotsUsed } : State).setVm s₂.vm).setTop { g with pc := g.pc + len₂, stack := v.toList ++ g.stack } := by
      refine e3.trans ?_
      rw [hf₂, State.calling_eq h.top, State.setFrames_setFrames, State.setTop_of_frames _ hr', hr]
      rfl
    have hsame : U.sameButNew ({ U with heap := s₂.heap, slotsUsed := s₂.slotsUsed } : State) L mc ms := by
      refine ⟨?_, q2, q3, q4, q5, q6⟩
      obtain ⟨t, ht, -⟩ := State.frames_cons hr
      show ({ U with heap := s₂.heap, slotsUsed := s₂.slotsUsed } : State) = { U.setFrames U.frames with heap := s₂.heap, slotsUsed := s₂.slotsUsed }
      rw [State.setFrames_self ht]
    subst hg
    refine Or.inl ⟨v, ⟨(({ U with heap := s₂.heap, slotsUsed := s₂.slotsUsed } : State).setVm s₂.vm), Ls ++ L, c0 + mc, s0 + ms⟩,
      ⟨X.admits, X.cas, X.clock, X.frames, X.room, X.hears, X.method, X.code, (X.here.setHeapUsed s₂.heap s₂.slotsUsed).setVm hW'.alike, X.tail, State.WarmedH.trans X.warmed hW', X.limits, X.bytes, X.same.trans (hsame.setVm s.vm)⟩,
      ⟨g, mk, s₂, L, rfl, rfl, hqc, rfl, hL, rfl, rfl⟩, ?_⟩
    show Steps p.tables e below _ ((({ U with heap := s₂.heap, slotsUsed := s₂.slotsUsed } : State).setVm s₂.vm).setTop { g with pc := g.pc + len₂, stack := v.toList ++ g.stack })
    rw [← hs₂]
    exact hsteps
  · obtain ⟨e2, q2, q3, q4, q5, q6⟩ := id hsm
    have e3 : s₂ = ({ (U.calling g mk a).setFrames s₂.frames with heap := s₂.heap, slotsUsed := s₂.slotsUsed } : State).setVm s₂.vm := by
      have : s₂ = ({ s₂ with vm := (U.calling g mk a).vm } : State).setVm s₂.vm := rfl
      rw [e2] at this
      exact this
    have hf₂ : s₂.frames = .throwing q :: .java g :: U.frames.tail := hend
    have hW' : U.WarmedH s₂.vm := hW₂
    have hs₂ : s₂ = ((({ U with heap := s₂.heap, slotsUsed := s₂.slotsUsed } : State).setVm s₂.vm).setTop g).pushFrame (.throwing q) := by
      refine e3.trans ?_
      rw [hf₂, State.calling_eq h.top, State.setFrames_setFrames, State.pushFrame, State.frames_setTop _ hr', State.setTop_of_frames _ hr', State.setFrames_setFrames, hr]
      rfl
    have hsame : U.sameButNew ({ U with heap := s₂.heap, slotsUsed := s₂.slotsUsed } : State) L mc ms := by
      refine ⟨?_, q2, q3, q4, q5, q6⟩
      obtain ⟨t, ht, -⟩ := State.frames_cons hr
      show ({ U with heap := s₂.heap, slotsUsed := s₂.slotsUsed } : State) = { U.setFrames U.frames with heap := s₂.heap, slotsUsed := s₂.slotsUsed }
      rw [State.setFrames_self ht]
    subst hg
    refine Or.inr ⟨q, ⟨(({ U with heap := s₂.heap, slotsUsed := s₂.slotsUsed } : State).setVm s₂.vm), Ls ++ L, c0 + mc, s0 + ms⟩,
      ⟨X.admits, X.cas, X.clock, X.frames, X.room, X.hears, X.method, X.code, (X.here.setHeapUsed s₂.heap s₂.slotsUsed).setVm hW'.alike, X.tail, State.WarmedH.trans X.warmed hW', X.limits, X.bytes, X.same.trans (hsame.setVm s.vm)⟩,
      ⟨g, mk, s₂, L, E, ce, rfl, rfl, hx, hce, hcv, hcl, rfl, hL, rfl, rfl⟩, ?_⟩
    show Steps p.tables e below _ (((({ U with heap := s₂.heap, slotsUsed := s₂.slotsUsed } : State).setVm s₂.vm).setTop g).pushFrame (.throwing q))
    rw [← hs₂]
    exact hsteps
end
variable {p : Program} {l : Launch} {e : Env} {R : Room} {s : State} {m : MethodId} {args : Array Value} {below : List Frame} {meth : Method} {c : Code} {T : State} {H : Heap} {locs : List Loc} {cells slots : Nat}
theorem vx_callVX (X : Stand p l e R s m args below meth c T locs cells slots) (hexec : p.tables.exec = Jvm.exec) {own C : String} {index : Nat} {y : MethodName} {bytes : ByteArray} {maxL : Nat} {ret : Option FieldType} {hh : List (Nat × Nat × Nat × Nat)}
    (hown : s.vm.findClass own = some m.cls) (hlink : (Cond.methodLink own index y).before args s = true) (hinst : (Cond.instanceMethod y).before args s = true) (hsel : (Cond.selects C y y).before args s = true)
    (hcode : (Cond.codeWith y bytes maxL ret hh).before args s = true) (hy : y.cls ≠ "java/lang/invoke/MethodHandle" ∧ y.cls ≠ "java/lang/invoke/VarHandle")
    {W9 : Nat} {Pre : Pt → Array Value → Prop} {Post : Pt → Array Value → Option Value → Pt → Prop} {PostX : Pt → Array Value → Addr → Pt → Prop} (hK : vx_Back l R p e below s args y 3 W9 Pre Post PostX)
    {b : Addr} {cellB : Cell} (hcell : T.heap[b]? = some cellB) (hobj : cellB.vm.isStatics = false) (hcls : s.vm.findClass C = some cellB.cls)
    {g : JFrame} (hg : g.method = m) (hsize : g.locals.size = c.maxLocals) {argsL rest : List Value} (hlen : ∀ sig, parseMethodDescriptor y.desc = some sig → argsL.length = sig.parameters.length)
    (hstack : g.stack = argsL.reverse ++ .ref b :: rest) (hW : 2 * g.monitorRoom + (rest.map fun v => v.category).sum ≤ W9) (hdg : decode c.code g.pc = .ok (.invokevirtual index, 3))
    (hpre : ∀ vm₁, s.WarmedH vm₁ → Pre ⟨T.setVm vm₁, locs, cells, slots⟩ (Value.ref b :: argsL).toArray) :
    (∃ (v : Option Value) (vm₁ : Vm) (B : Pt), s.WarmedH vm₁ ∧ Stand p l e R s m args below meth c B.U B.locs B.cells B.slots ∧ Post ⟨T.setVm vm₁, locs, cells, slots⟩ (Value.ref b :: argsL).toArray v B ∧
      ∀ target, Steps p.tables e below (B.U.setTop { g with pc := g.pc + 3, stack := v.toList ++ rest }) target → Steps p.tables e below (T.setTop g) target) ∨
    (∃ (q : Addr) (vm₁ : Vm) (B : Pt), s.WarmedH vm₁ ∧ Stand p l e R s m args below meth c B.U B.locs B.cells B.slots ∧ PostX ⟨T.setVm vm₁, locs, cells, slots⟩ (Value.ref b :: argsL).toArray q B ∧
      Steps p.tables e below (T.setTop g) ((B.U.setTop { g with stack := rest }).pushFrame (.throwing q))) := by
  obtain ⟨mk, methM, hnamed, hmethM, hstM, habM⟩ := Cond.instanceMethod_spec hinst
  obtain ⟨m8, methM', cM, hn8, hmethM', -, -, -, -, -, -, hsigM⟩ := Cond.codeWith_spec hcode
  cases Option.some.inj (hn8.symm.trans hnamed)
  cases hmethM.symm.trans hmethM'
  obtain ⟨c2, r2, m2, q1, q2, q3, q4, kP, hkP, hkPi⟩ := Cond.selects_spec hsel
  cases hcls.symm.trans q1
  cases (State.methodFound?_of_named hnamed hy).symm.trans q2
  cases hnamed.symm.trans q3
  have hselP : selectMethod e.platform s.vm cellB.cls mk = .method mk := by rw [Launch.admits_selectMethod X.admits]; exact q4
  obtain ⟨vm₁, X₁, hstep₁⟩ := X.invokevirtual hexec hown hlink hnamed hmethM hstM hkP hkPi hy (a := b) (cell := cellB) hcell
    (fun z h => by rw [h] at hobj; cases hobj) hselP hmethM habM hkP hkPi (g := g) hg (argsL := argsL) (rest := rest) (hlen _ hsigM) hstack hdg
  rcases hK m meth c ⟨T.setVm vm₁, locs, cells, slots⟩ { g with stack := rest } (.invokevirtual index) mk (Value.ref b :: argsL).toArray X₁ hg hsize hdg hW (X₁.named hnamed) (hpre vm₁ X₁.warmed) with ⟨v, B, X', hpost, hsteps⟩ | ⟨q, B, X', hpost, hsteps⟩
  · exact Or.inl ⟨v, vm₁, B, X₁.warmed, X', hpost, fun target h => hstep₁ _ fun acts => by rw [doInvoke_state]; exact hsteps.trans h⟩
  · exact Or.inr ⟨q, vm₁, B, X₁.warmed, X', hpost, hstep₁ _ fun acts => by rw [doInvoke_state]; exact hsteps⟩
theorem vx_callSX (X : Stand p l e R s m args below meth c T locs cells slots) (hexec : p.tables.exec = Jvm.exec) {own : String} {index : Nat} {y : MethodName} {bytes : ByteArray} {maxL : Nat} {ret : Option FieldType} {hh : List (Nat × Nat × Nat × Nat)}
    (hown : s.vm.findClass own = some m.cls) (hlink : (Cond.methodLink own index y).before args s = true) (hstat : (Cond.static y).before args s = true) (hinit : (Cond.initialized y.cls).before args s = true)
    (hcode : (Cond.codeWith y bytes maxL ret hh).before args s = true) (hy : y.cls ≠ "java/lang/invoke/MethodHandle" ∧ y.cls ≠ "java/lang/invoke/VarHandle")
    {W9 : Nat} {Pre : Pt → Array Value → Prop} {Post : Pt → Array Value → Option Value → Pt → Prop} {PostX : Pt → Array Value → Addr → Pt → Prop} (hK : vx_Back l R p e below s args y 3 W9 Pre Post PostX)
    {g : JFrame} (hg : g.method = m) (hsize : g.locals.size = c.maxLocals) {argsL rest : List Value} (hlen : ∀ sig, parseMethodDescriptor y.desc = some sig → argsL.length = sig.parameters.length)
    (hstack : g.stack = argsL.reverse ++ rest) (hW : 2 * g.monitorRoom + (rest.map fun v => v.category).sum ≤ W9) (hdg : decode c.code g.pc = .ok (.invokestatic index, 3))
    (hpre : ∀ vm₁, s.WarmedH vm₁ → Pre ⟨T.setVm vm₁, locs, cells, slots⟩ argsL.toArray) :
    (∃ (v : Option Value) (vm₁ : Vm) (B : Pt), s.WarmedH vm₁ ∧ Stand p l e R s m args below meth c B.U B.locs B.cells B.slots ∧ Post ⟨T.setVm vm₁, locs, cells, slots⟩ argsL.toArray v B ∧
      ∀ target, Steps p.tables e below (B.U.setTop { g with pc := g.pc + 3, stack := v.toList ++ rest }) target → Steps p.tables e below (T.setTop g) target) ∨
    (∃ (q : Addr) (vm₁ : Vm) (B : Pt), s.WarmedH vm₁ ∧ Stand p l e R s m args below meth c B.U B.locs B.cells B.slots ∧ PostX ⟨T.setVm vm₁, locs, cells, slots⟩ argsL.toArray q B ∧
      Steps p.tables e below (T.setTop g) ((B.U.setTop { g with stack := rest }).pushFrame (.throwing q))) := by
  obtain ⟨mk, methM, cM, hnamed, hmethM, -, -, -, -, -, -, hsigM⟩ := Cond.codeWith_spec hcode
  have hstatic : methM.isStatic = true := Cond.static_spec hnamed hmethM hstat
  obtain ⟨kP, hkP, -⟩ := className_of_methodNamed hnamed
  have hinitP : kP.init = .initialized := Cond.initialized_spec (findClass_of_methodNamed hnamed) hkP hinit
  obtain ⟨vm₁, X₁, hstep₁⟩ := X.invokestatic hexec hown hlink hnamed hmethM hstatic hkP hinitP hy (g := g) hg (argsL := argsL) (rest := rest) (hlen _ hsigM) hstack hdg
  rcases hK m meth c ⟨T.setVm vm₁, locs, cells, slots⟩ { g with stack := rest } (.invokestatic index) mk argsL.toArray X₁ hg hsize hdg hW (X₁.named hnamed) (hpre vm₁ X₁.warmed) with ⟨v, B, X', hpost, hsteps⟩ | ⟨q, B, X', hpost, hsteps⟩
  · exact Or.inl ⟨v, vm₁, B, X₁.warmed, X', hpost, fun target h => hstep₁ _ fun acts => by rw [doInvoke_state]; exact hsteps.trans h⟩
  · exact Or.inr ⟨q, vm₁, B, X₁.warmed, X', hpost, hstep₁ _ fun acts => by rw [doInvoke_state]; exact hsteps⟩
theorem vx_callVW (X : Stand p l e R s m args below meth c T locs cells slots) (hexec : p.tables.exec = Jvm.exec) {own C : String} {index : Nat} {y : MethodName} {bytes : ByteArray} {maxL : Nat} {ret : Option FieldType} {hh : List (Nat × Nat × Nat × Nat)}
    (hown : s.vm.findClass own = some m.cls) (hlink : (Cond.methodLink own index y).before args s = true) (hinst : (Cond.instanceMethod y).before args s = true) (hsel : (Cond.selects C y y).before args s = true)
    (hcode : (Cond.codeWith y bytes maxL ret hh).before args s = true) (hy : y.cls ≠ "java/lang/invoke/MethodHandle" ∧ y.cls ≠ "java/lang/invoke/VarHandle")
    {W9 : Nat} {Pre : Pt → Array Value → Prop} {Post : Pt → Array Value → Option Value → Pt → Prop} (hK : Back l R p e below s args y 3 W9 Pre Post)
    {b : Addr} {cellB : Cell} (hcell : T.heap[b]? = some cellB) (hobj : cellB.vm.isStatics = false) (hcls : s.vm.findClass C = some cellB.cls)
    {g : JFrame} (hg : g.method = m) (hsize : g.locals.size = c.maxLocals) {argsL rest : List Value} (hlen : ∀ sig, parseMethodDescriptor y.desc = some sig → argsL.length = sig.parameters.length)
    (hstack : g.stack = argsL.reverse ++ .ref b :: rest) (hW : 2 * g.monitorRoom + (rest.map fun v => v.category).sum ≤ W9) (hdg : decode c.code g.pc = .ok (.invokevirtual index, 3))
    (hpre : ∀ vm₁, s.WarmedH vm₁ → Pre ⟨T.setVm vm₁, locs, cells, slots⟩ (Value.ref b :: argsL).toArray) :
    ∃ (v : Option Value) (vm₁ : Vm) (B : Pt), s.WarmedH vm₁ ∧ Stand p l e R s m args below meth c B.U B.locs B.cells B.slots ∧ Post ⟨T.setVm vm₁, locs, cells, slots⟩ (Value.ref b :: argsL).toArray v B ∧
      ∀ target, Steps p.tables e below (B.U.setTop { g with pc := g.pc + 3, stack := v.toList ++ rest }) target → Steps p.tables e below (T.setTop g) target := by
  obtain ⟨mk, methM, hnamed, hmethM, hstM, habM⟩ := Cond.instanceMethod_spec hinst
  obtain ⟨m8, methM', cM, hn8, hmethM', -, -, -, -, -, -, hsigM⟩ := Cond.codeWith_spec hcode
  cases Option.some.inj (hn8.symm.trans hnamed)
  cases hmethM.symm.trans hmethM'
  obtain ⟨c2, r2, m2, q1, q2, q3, q4, kP, hkP, hkPi⟩ := Cond.selects_spec hsel
  cases hcls.symm.trans q1
  cases (State.methodFound?_of_named hnamed hy).symm.trans q2
  cases hnamed.symm.trans q3
  have hselP : selectMethod e.platform s.vm cellB.cls mk = .method mk := by rw [Launch.admits_selectMethod X.admits]; exact q4
  obtain ⟨vm₁, X₁, hstep₁⟩ := X.invokevirtual hexec hown hlink hnamed hmethM hstM hkP hkPi hy (a := b) (cell := cellB) hcell
    (fun z h => by rw [h] at hobj; cases hobj) hselP hmethM habM hkP hkPi (g := g) hg (argsL := argsL) (rest := rest) (hlen _ hsigM) hstack hdg
  obtain ⟨v, B, X', hpost, hsteps⟩ := hK m meth c ⟨T.setVm vm₁, locs, cells, slots⟩ { g with stack := rest } (.invokevirtual index) mk (Value.ref b :: argsL).toArray X₁ hg hsize hdg hW (X₁.named hnamed) (hpre vm₁ X₁.warmed)
  exact ⟨v, vm₁, B, X₁.warmed, X', hpost, fun target h => hstep₁ _ fun acts => by rw [doInvoke_state]; exact hsteps.trans h⟩
abbrev vx_CVW (R : Room) (s : State) (args : Array Value) (own C : String) (index : Nat) (y : MethodName) (bytes : ByteArray) (maxL : Nat) (ret : Option FieldType) (hh : List (Nat × Nat × Nat × Nat)) (ws : List Cond) (rm : Room) (mc ms n : Nat) : Prop :=
  (rm.cells = mc ∧ rm.slots = ms ∧ rm.frames + 1 ≤ R.frames ∧ 8 + (maxL + 11) + rm.locals ≤ R.locals ∧ (∀ w ∈ ws, ∀ (a' : Array Value) (U : State), s.WarmedH U.vm → w.before a' U = true) ∧ Cond.codeWith y bytes maxL ret hh ∈ ws) ∧
  (Cond.codeWith y bytes maxL ret hh).before args s = true ∧ (Cond.initialized y.cls).before args s = true ∧ (y.cls ≠ "java/lang/invoke/MethodHandle" ∧ y.cls ≠ "java/lang/invoke/VarHandle") ∧
  (∀ sig, parseMethodDescriptor y.desc = some sig → n = sig.parameters.length) ∧ (Cond.methodLink own index y).before args s = true ∧ (Cond.instanceMethod y).before args s = true ∧ (Cond.selects C y y).before args s = true
theorem vx_cwVW {own C : String} {index maxL mc ms : Nat} {y : MethodName} {bytes : ByteArray} {ret : Option FieldType} {hh : List (Nat × Nat × Nat × Nat)} {Ts ws ws' : List Cond} {rm : Room} (n : Nat) (ht : ∀ w ∈ Ts, w.before args s = true) (hT : GoodIn Ts (wsV own index C y ws)) (hw : ws = Cond.codeWith y bytes maxL ret hh :: ws') (hrc : rm.cells = mc) (hrs : rm.slots = ms)
    (hd : y.cls = C ∧ y.cls ≠ "java/lang/invoke/MethodHandle" ∧ y.cls ≠ "java/lang/invoke/VarHandle" ∧ (parseMethodDescriptor y.desc).map (fun d => d.parameters.length) = some n) (hR : rm.frames + 1 ≤ R.frames ∧ 8 + (maxL + 11) + rm.locals ≤ R.locals) :
    vx_CVW R s args own C index y bytes maxL ret hh ws rm mc ms n := by
  obtain ⟨hC, hd⟩ := hd
  subst hC
  have ok : ∀ w ∈ wsV own index y.cls y ws, w.before args s = true := fun w h => ht w (hT w h).1
  have hG : GoodIn Ts ws := fun w h => hT w (by unfold wsV; exact List.mem_append_right _ h)
  have hc : Cond.codeWith y bytes maxL ret hh ∈ ws := by rw [hw]; exact List.mem_cons_self
  refine ⟨⟨hrc, hrs, hR.1, hR.2, pay_in ht hG, hc⟩, ht _ (hG _ hc).1, ok _ (by simp [wsV]), ⟨hd.1, hd.2.1⟩, fun sig h => ?_, ok _ (by simp [wsV]), ok _ (by simp [wsV]), ok _ (by simp [wsV])⟩
  have h2 := hd.2.2
  rw [h] at h2
  exact (Option.some.inj h2).symm
theorem vx_runVW {y : MethodName} {bytes cc : ByteArray} {maxL nL mc ms n index : Nat} {ret : Option FieldType} {hh : List (Nat × Nat × Nat × Nat)} {ws : List Cond} {rm : Room} {Pc : Array Value → State → Prop} {Qc : Array Value → State → Outcome → State → Prop} {free : Addr → Prop} {Ts : List Cond} {own C : String} {b : Addr} {As rest : List Value} {g : JFrame}
    (S : CallFix p m c cc nL s args Ts own) (hM : Met l y ws rm Pc Qc mc ms free) (cw : vx_CVW R s args own C index y bytes maxL ret hh ws rm mc ms n) (hp : PreV s H C b Pc As)
    (hg : g.method = m) (hn : As.length = n) (hsize : g.locals.size = nL) (hstack : g.stack = As.reverse ++ .ref b :: rest) (hW : 2 * g.monitorRoom + (rest.map fun v => v.category).sum ≤ 8) (hdg : decode cc g.pc = .ok (.invokevirtual index, 3)) (hf : cells + mc ≤ R.cells ∧ slots + ms ≤ R.slots) :
    va_Run p l e R s m args below meth c H locs cells slots mc ms g rest (Qc (Value.ref b :: As).toArray) free := by
  obtain ⟨⟨hrc, hrs, hfr, hlo, hws, hcw⟩, hcode, hini, hy, hlen, hl, hin, hse⟩ := cw
  have hK : Back l R p e below s args y 3 8 (PreOf R mc ms Pc) (PostOf Qc mc ms free) := va_backW (hh := hh) (bytes := bytes) (maxL := maxL) (ret := ret) hM hp.1 hrc hrs hfr hlo hws hcw (fun a' U hW => word_at hW (Or.inl (by first | rfl | simp [Cond.onTables, Cond.keeps, Cond.steady])) hini)
  obtain ⟨hx, hb, hml, ho, -⟩ := S
  obtain ⟨-, ⟨cellB, hcB, hoB, hclB⟩, hPc⟩ := hp
  intro T hT X
  obtain ⟨v, vm₁, ⟨U', l2, c2, s2⟩, hW₁, X', ⟨g', mk, t, L, e1, e2, hq, h1, hL, h2, h3⟩, st⟩ := vx_callVW X hx (C := C) (hh := hh) (bytes := bytes) (maxL := maxL) (ret := ret) ho hl hin hse hcode hy hK (by rw [hT]; exact hcB) hoB hclB hg (hsize.trans hml.symm) (argsL := As) (rest := rest) (fun sig h => hn.trans (hlen sig h)) hstack hW (by rw [hb]; exact hdg)
    (fun vm₁ hW₁ => ⟨hf.1, hf.2, hPc (T.setVm vm₁) hT hW₁⟩)
  dsimp only [Pt.U, Pt.locs, Pt.cells, Pt.slots] at X' e1 e2 h1 h2 h3 st
  subst h1; subst h2; subst h3
  exact ⟨v, (T.setVm vm₁).calling g' mk (Value.ref b :: As).toArray, t, U', L, hT, X', hL, e1, e2, hq, st⟩
section
variable {y : MethodName} {bytes cc : ByteArray} {maxL nL mc ms n index : Nat} {ret : Option FieldType} {ws : List Cond} {rm : Room} {Pc : Array Value → State → Prop} {Qc : Array Value → State → Outcome → State → Prop} {XC : String → State → State → Prop} {free : Addr → Prop} {Ts : List Cond} {own C : String} {b : Addr} {As rest : List Value} {g : JFrame}
theorem vx_runVX {hh : List (Nat × Nat × Nat × Nat)} (S : CallFix p m c cc nL s args Ts own) (hM : vx_Met l y ws rm Pc Qc XC mc ms free) (cw : vx_CVW R s args own C index y bytes maxL ret hh ws rm mc ms n) (hp : PreV s H C b Pc As)
    (hg : g.method = m) (hn : As.length = n) (hsize : g.locals.size = nL) (hstack : g.stack = As.reverse ++ .ref b :: rest) (hW : 2 * g.monitorRoom + (rest.map fun v => v.category).sum ≤ 8) (hdg : decode cc g.pc = .ok (.invokevirtual index, 3)) (hf : cells + mc ≤ R.cells ∧ slots + ms ≤ R.slots) :
    vx_Run p l e R s m args below meth c H locs cells slots mc ms g rest (Qc (Value.ref b :: As).toArray) XC free := by
  obtain ⟨⟨hrc, hrs, hfr, hlo, hws, hcw⟩, hcode, hini, hy, hlen, hl, hin, hse⟩ := cw
  have hK : vx_Back l R p e below s args y 3 8 (PreOf R mc ms Pc) (PostOf Qc mc ms free) (vx_Post XC mc ms free) := vx_backW (hh := hh) (bytes := bytes) (maxL := maxL) (ret := ret) hM hp.1 hrc hrs hfr hlo hws hcw (fun a' U hW => word_at hW (Or.inl (by first | rfl | simp [Cond.onTables, Cond.keeps, Cond.steady])) hini)
  obtain ⟨hx, hb, hml, ho, -⟩ := S
  obtain ⟨-, ⟨cellB, hcB, hoB, hclB⟩, hPc⟩ := hp
  intro T hT X
  rcases vx_callVX X hx (C := C) (hh := hh) (bytes := bytes) (maxL := maxL) (ret := ret) ho hl hin hse hcode hy hK (by rw [hT]; exact hcB) hoB hclB hg (hsize.trans hml.symm) (argsL := As) (rest := rest) (fun sig h => hn.trans (hlen sig h)) hstack hW (by rw [hb]; exact hdg)
    (fun vm₁ hW₁ => ⟨hf.1, hf.2, hPc (T.setVm vm₁) hT hW₁⟩) with ⟨v, vm₁, ⟨U', l2, c2, s2⟩, hW₁, X', ⟨g', mk, t, L, e1, e2, hq, h1, hL, h2, h3⟩, st⟩ | ⟨q, vm₁, ⟨U', l2, c2, s2⟩, hW₁, X', ⟨g', mk, t, L, E, ce, e1, e2, hq, hce, hcv, hcl, h1, hL, h2, h3⟩, st⟩
  · dsimp only [Pt.U, Pt.locs, Pt.cells, Pt.slots] at X' e1 e2 h1 h2 h3 st
    subst h1; subst h2; subst h3
    exact Or.inl ⟨v, (T.setVm vm₁).calling g' mk (Value.ref b :: As).toArray, t, U', L, hT, X', hL, e1, e2, hq, st⟩
  · dsimp only [Pt.U, Pt.locs, Pt.cells, Pt.slots] at X' e1 e2 h1 h2 h3 st hcl
    subst h1; subst h2; subst h3
    exact Or.inr ⟨q, (T.setVm vm₁).calling g' mk (Value.ref b :: As).toArray, t, U', L, E, ce, hT, X', hL, e1, e2, hq, hce, hcv, vx_cls hW₁ hcl, st⟩
theorem vx_runSX {hh : List (Nat × Nat × Nat × Nat)} (S : CallFix p m c cc nL s args Ts own) (hM : vx_Met l y ws rm Pc Qc XC mc ms free) (cw : vx_CSW R s args own index y bytes maxL ret hh ws rm mc ms n) (hp : PreS s H Pc As)
    (hg : g.method = m) (hn : As.length = n) (hsize : g.locals.size = nL) (hstack : g.stack = As.reverse ++ rest) (hW : 2 * g.monitorRoom + (rest.map fun v => v.category).sum ≤ 8) (hdg : decode cc g.pc = .ok (.invokestatic index, 3)) (hf : cells + mc ≤ R.cells ∧ slots + ms ≤ R.slots) :
    vx_Run p l e R s m args below meth c H locs cells slots mc ms g rest (Qc As.toArray) XC free := by
  obtain ⟨⟨hrc, hrs, hfr, hlo, hws, hcw⟩, hcode, hini, hy, hlen, hl, hstt⟩ := cw
  have hK : vx_Back l R p e below s args y 3 8 (PreOf R mc ms Pc) (PostOf Qc mc ms free) (vx_Post XC mc ms free) := vx_backW (hh := hh) (bytes := bytes) (maxL := maxL) (ret := ret) hM hp.1 hrc hrs hfr hlo hws hcw (fun a' U hW => word_at hW (Or.inl (by first | rfl | simp [Cond.onTables, Cond.keeps, Cond.steady])) hini)
  obtain ⟨hx, hb, hml, ho, -⟩ := S
  intro T hT X
  rcases vx_callSX X hx (hh := hh) (bytes := bytes) (maxL := maxL) (ret := ret) ho hl hstt hini hcode hy hK hg (hsize.trans hml.symm) (argsL := As) (rest := rest) (fun sig h => hn.trans (hlen sig h)) hstack hW (by rw [hb]; exact hdg)
    (fun vm₁ hW₁ => ⟨hf.1, hf.2, hp.2 (T.setVm vm₁) hT hW₁⟩) with ⟨v, vm₁, ⟨U', l2, c2, s2⟩, hW₁, X', ⟨g', mk, t, L, e1, e2, hq, h1, hL, h2, h3⟩, st⟩ | ⟨q, vm₁, ⟨U', l2, c2, s2⟩, hW₁, X', ⟨g', mk, t, L, E, ce, e1, e2, hq, hce, hcv, hcl, h1, hL, h2, h3⟩, st⟩
  · dsimp only [Pt.U, Pt.locs, Pt.cells, Pt.slots] at X' e1 e2 h1 h2 h3 st
    subst h1; subst h2; subst h3
    exact Or.inl ⟨v, (T.setVm vm₁).calling g' mk As.toArray, t, U', L, hT, X', hL, e1, e2, hq, st⟩
  · dsimp only [Pt.U, Pt.locs, Pt.cells, Pt.slots] at X' e1 e2 h1 h2 h3 st hcl
    subst h1; subst h2; subst h3
    exact Or.inr ⟨q, (T.setVm vm₁).calling g' mk As.toArray, t, U', L, E, ce, hT, X', hL, e1, e2, hq, hce, hcv, vx_cls hW₁ hcl, st⟩
end
end VXH
theorem vx_ofWH {l : Launch} {y : MethodName} {ws ws' : List Cond} {rm : Room} {Pc : Array Value → State → Prop} {Qc : Array Value → State → Outcome → State → Prop} {XC : String → State → State → Prop} {mc ms : Nat} {free : Addr → Prop} {cc : ByteArray} {maxL : Nat} {ret : Option FieldType} {hh : List (Nat × Nat × Nat × Nat)}
    (hy : plainName y.cls = true) (hw : ws = Cond.codeWith y cc maxL ret hh :: ws')
    (body : ∀ p e s m args below meth c s₁, BodyLoose p l y (headSpec ws rm) cc maxL ret e s m args below meth c s₁ → c.maxLocals = maxL → Pc args s →
      W p l e (headSpec ws rm).room s m args below meth c s.heap [] 0 0 (vx_MQ below Qc XC args s mc ms free) (entryFrame m args maxL)) : vx_Met l y ws rm Pc Qc XC mc ms free := by
  refine MetFree.of_bodyS (code := cc) (maxLocals := maxL) (ret := ret) hy ?_ ?_
  · intro args s m h hn
    obtain ⟨m9, meth, c, hn9, h1, h2, h3, h4, -, h5, h6, -⟩ := Cond.codeWith_spec (atoms_spec (ws := ws) h _ (by rw [hw]; exact List.mem_cons_self))
    cases hn.symm.trans hn9
    exact ⟨meth, c, h1, h2, h3, h4, h5, h6⟩
  · intro p e s m args below meth c s₁ B hml hP _
    have hh0 : s₁.heap = s.heap := by rw [B.state]; rfl
    obtain ⟨t, a1, o, b1, b2, b3⟩ := body p e s m args below meth c s₁ B hml hP s₁ hh0 (Stand.of_body B)
    exact ⟨t, o, a1, b1, b2, b3⟩
/-! ===== END ===== -/
end
section
/-! names of this claim: laid by my own program out of claim/Statement.lean and claim/JAVAP.txt -/
def ew_T : List Cond := lw_tbl.filter goodWord
def R_M : String := "ExtentDisk$Manifest"
def T_M : u_T := fun k => match k with
  | 0 => ("ExtentDisk$Manifest", "labels", "[I", true)
  | 1 => ("ExtentDisk$Manifest", "firsts", "[I", true)
  | 2 => ("ExtentDisk$Manifest", "sizes", "[I", true)
  | 3 => ("ExtentDisk$Manifest", "notes", "[I", true)
  | 4 => ("ExtentDisk$Manifest", "extents", "I", false)
  | _ => ("ExtentDisk$Manifest", "changes", "I", false)
def t_M : Nat → FieldType := fun k => match k with
  | 0 => .array .int
  | 1 => .array .int
  | 2 => .array .int
  | 3 => .array .int
  | 4 => .int
  | _ => .int
theorem n_M : ∀ a, a < 6 → ∀ b, b < 6 → a ≠ b → (T_M a).2.1 ≠ (T_M b).2.1 := by decide +kernel
theorem t_M_ok : ∀ k, k < 6 → parseFieldDescriptor (T_M k).2.2.1 = some (t_M k) := by decide +kernel
def R_P : String := "ExtentDisk$Platter"
def T_P : u_T := fun k => match k with
  | 0 => ("ExtentDisk$Platter", "bytes", "[B", true)
  | 1 => ("ExtentDisk$Platter", "down", "Z", false)
  | 2 => ("ExtentDisk$Platter", "written", "I", false)
  | _ => ("ExtentDisk$Platter", "powerLeft", "I", false)
def t_P : Nat → FieldType := fun k => match k with
  | 0 => .array .byte
  | 1 => .boolean
  | 2 => .int
  | _ => .int
theorem n_P : ∀ a, a < 4 → ∀ b, b < 4 → a ≠ b → (T_P a).2.1 ≠ (T_P b).2.1 := by decide +kernel
theorem t_P_ok : ∀ k, k < 4 → parseFieldDescriptor (T_P k).2.2.1 = some (t_P k) := by decide +kernel
def R_Tp : String := "ExtentDisk$Tape"
def T_Tp : u_T := fun k => match k with
  | 0 => ("ExtentDisk$Tape", "bytes", "[B", true)
  | _ => ("ExtentDisk$Tape", "length", "I", false)
def t_Tp : Nat → FieldType := fun k => match k with
  | 0 => .array .byte
  | _ => .int
theorem n_Tp : ∀ a, a < 2 → ∀ b, b < 2 → a ≠ b → (T_Tp a).2.1 ≠ (T_Tp b).2.1 := by decide +kernel
theorem t_Tp_ok : ∀ k, k < 2 → parseFieldDescriptor (T_Tp k).2.2.1 = some (t_Tp k) := by decide +kernel
def R_D : String := "ExtentDisk"
def T_D : u_T := fun k => match k with
  | 0 => ("ExtentDisk", "platter", "LExtentDisk$Platter;", true)
  | 1 => ("ExtentDisk", "tape", "LExtentDisk$Tape;", true)
  | 2 => ("ExtentDisk", "wishes", "[I", true)
  | 3 => ("ExtentDisk", "page", "[B", true)
  | 4 => ("ExtentDisk", "tenants", "[I", true)
  | 5 => ("ExtentDisk", "now", "LExtentDisk$Manifest;", false)
  | _ => ("ExtentDisk", "next", "LExtentDisk$Manifest;", false)
def t_D : Nat → FieldType := fun k => match k with
  | 0 => .object "ExtentDisk$Platter"
  | 1 => .object "ExtentDisk$Tape"
  | 2 => .array .int
  | 3 => .array .byte
  | 4 => .array .int
  | 5 => .object "ExtentDisk$Manifest"
  | _ => .object "ExtentDisk$Manifest"
theorem n_D : ∀ a, a < 7 → ∀ b, b < 7 → a ≠ b → (T_D a).2.1 ≠ (T_D b).2.1 := by decide +kernel
theorem t_D_ok : ∀ k, k < 7 → parseFieldDescriptor (T_D k).2.2.1 = some (t_D k) := by decide +kernel
def R_K : String := "ExtentDiskModel"
def T_K : u_T := fun k => match k with
  | 0 => ("ExtentDiskModel", "code", "I", false)
  | 1 => ("ExtentDiskModel", "blocks", "I", true)
  | 2 => ("ExtentDiskModel", "down", "Z", false)
  | 3 => ("ExtentDiskModel", "writes", "I", false)
  | 4 => ("ExtentDiskModel", "left", "I", false)
  | 5 => ("ExtentDiskModel", "extents", "I", false)
  | 6 => ("ExtentDiskModel", "label", "[I", true)
  | 7 => ("ExtentDiskModel", "first", "[I", true)
  | 8 => ("ExtentDiskModel", "many", "[I", true)
  | 9 => ("ExtentDiskModel", "bytes", "[I", true)
  | 10 => ("ExtentDiskModel", "note", "[I", true)
  | 11 => ("ExtentDiskModel", "changes", "I", false)
  | 12 => ("ExtentDiskModel", "disk", "[B", true)
  | 13 => ("ExtentDiskModel", "used", "[Z", true)
  | 14 => ("ExtentDiskModel", "wish", "[I", true)
  | 15 => ("ExtentDiskModel", "taped", "I", false)
  | _ => ("ExtentDiskModel", "tape", "[B", true)
def t_K : Nat → FieldType := fun k => match k with
  | 0 => .int
  | 1 => .int
  | 2 => .boolean
  | 3 => .int
  | 4 => .int
  | 5 => .int
  | 6 => .array .int
  | 7 => .array .int
  | 8 => .array .int
  | 9 => .array .int
  | 10 => .array .int
  | 11 => .int
  | 12 => .array .byte
  | 13 => .array .boolean
  | 14 => .array .int
  | 15 => .int
  | _ => .array .byte
theorem n_K : ∀ a, a < 17 → ∀ b, b < 17 → a ≠ b → (T_K a).2.1 ≠ (T_K b).2.1 := by decide +kernel
theorem t_K_ok : ∀ k, k < 17 → parseFieldDescriptor (T_K k).2.2.1 = some (t_K k) := by decide +kernel
def R_L : String := "ExtentDiskLaw"
def R_A : String := "java/util/Arrays"
abbrev vwCl : List vw_C := [(R_M, T_M, 6), (R_P, T_P, 4), (R_Tp, T_Tp, 2), (R_D, T_D, 7), (R_K, T_K, 17)]
theorem ew_mem {w : Cond} (i : Nat) (h : lw_tbl[i]? = some w) (hg : goodWord w = true) : w ∈ ew_T := List.mem_filter.mpr ⟨List.mem_of_getElem? h, hg⟩
theorem ew_0 : (.selects "ExtentDisk" ⟨"ExtentDisk", "makeNextCount", "()V"⟩ ⟨"ExtentDisk", "makeNextCount", "()V"⟩ : Cond) ∈ ew_T := ew_mem 0 (by decide +kernel) (by decide +kernel)
theorem ew_2 : (.selects "ExtentDisk" ⟨"ExtentDisk", "firstFreeRow", "(I)I"⟩ ⟨"ExtentDisk", "firstFreeRow", "(I)I"⟩ : Cond) ∈ ew_T := ew_mem 2 (by decide +kernel) (by decide +kernel)
theorem ew_3 : (.selects "ExtentDisk" ⟨"ExtentDisk", "carryOut", "(I)I"⟩ ⟨"ExtentDisk", "carryOut", "(I)I"⟩ : Cond) ∈ ew_T := ew_mem 3 (by decide +kernel) (by decide +kernel)
theorem ew_4 : (.selects "ExtentDisk" ⟨"ExtentDisk", "forget", "()V"⟩ ⟨"ExtentDisk", "forget", "()V"⟩ : Cond) ∈ ew_T := ew_mem 4 (by decide +kernel) (by decide +kernel)
theorem ew_5 : (.selects "ExtentDisk" ⟨"ExtentDisk", "freeBlocks", "()I"⟩ ⟨"ExtentDisk", "freeBlocks", "()I"⟩ : Cond) ∈ ew_T := ew_mem 5 (by decide +kernel) (by decide +kernel)
theorem ew_13 : (.initialized "ExtentDisk" : Cond) ∈ ew_T := ew_mem 13 (by decide +kernel) (by decide +kernel)
theorem ew_14 : (.initialized "java/lang/Math" : Cond) ∈ ew_T := ew_mem 14 (by decide +kernel) (by decide +kernel)
theorem ew_15 : (.initialized "ExtentDisk$Platter" : Cond) ∈ ew_T := ew_mem 15 (by decide +kernel) (by decide +kernel)
theorem ew_16 : (.initialized "ExtentDisk$Tape" : Cond) ∈ ew_T := ew_mem 16 (by decide +kernel) (by decide +kernel)
theorem ew_17 : (.initialized "ExtentDisk$Manifest" : Cond) ∈ ew_T := ew_mem 17 (by decide +kernel) (by decide +kernel)
theorem ew_22 : (.initialized "java/lang/IllegalArgumentException" : Cond) ∈ ew_T := ew_mem 22 (by decide +kernel) (by decide +kernel)
theorem ew_23 : (.initialized "java/lang/IllegalStateException" : Cond) ∈ ew_T := ew_mem 23 (by decide +kernel) (by decide +kernel)
theorem ew_24 : (.initialized "java/util/Arrays" : Cond) ∈ ew_T := ew_mem 24 (by decide +kernel) (by decide +kernel)
theorem ew_25 : (.initialized "java/lang/System" : Cond) ∈ ew_T := ew_mem 25 (by decide +kernel) (by decide +kernel)
theorem ew_30 : (.code ⟨"ExtentDisk", "<init>", "(I)V"⟩ prog_1_method_1_code 3 none : Cond) ∈ ew_T := ew_mem 30 rfl rfl
theorem ew_31 : (.methodLink "ExtentDisk" 1 ⟨"java/lang/Object", "<init>", "()V"⟩ : Cond) ∈ ew_T := ew_mem 31 (by decide +kernel) (by decide +kernel)
theorem ew_32 : (.instanceMethod ⟨"java/lang/Object", "<init>", "()V"⟩ : Cond) ∈ ew_T := ew_mem 32 (by decide +kernel) (by decide +kernel)
theorem ew_33 : (.code ⟨"java/lang/Object", "<init>", "()V"⟩ object_method_1_code 1 none : Cond) ∈ ew_T := ew_mem 33 rfl rfl
theorem ew_34 : (.methodLink "ExtentDisk" 9 ⟨"java/lang/Math", "min", "(II)I"⟩ : Cond) ∈ ew_T := ew_mem 34 (by decide +kernel) (by decide +kernel)
theorem ew_35 : (.static ⟨"java/lang/Math", "min", "(II)I"⟩ : Cond) ∈ ew_T := ew_mem 35 (by decide +kernel) (by decide +kernel)
theorem ew_36 : (.code ⟨"java/lang/Math", "min", "(II)I"⟩ prog_10_method_69_code 2 (some .int) : Cond) ∈ ew_T := ew_mem 36 rfl rfl
theorem ew_37 : (.methodLink "ExtentDisk" 15 ⟨"java/lang/Math", "max", "(II)I"⟩ : Cond) ∈ ew_T := ew_mem 37 (by decide +kernel) (by decide +kernel)
theorem ew_38 : (.static ⟨"java/lang/Math", "max", "(II)I"⟩ : Cond) ∈ ew_T := ew_mem 38 (by decide +kernel) (by decide +kernel)
theorem ew_39 : (.code ⟨"java/lang/Math", "max", "(II)I"⟩ prog_10_method_65_code 2 (some .int) : Cond) ∈ ew_T := ew_mem 39 rfl rfl
theorem ew_40 : (.classLink "ExtentDisk" 18 "ExtentDisk$Platter" : Cond) ∈ ew_T := ew_mem 40 (by decide +kernel) (by decide +kernel)
theorem ew_41 : (.instantiable "ExtentDisk$Platter" 4 : Cond) ∈ ew_T := ew_mem 41 (by decide +kernel) (by decide +kernel)
theorem ew_42 : (.methodLink "ExtentDisk" 20 ⟨"ExtentDisk$Platter", "<init>", "(I)V"⟩ : Cond) ∈ ew_T := ew_mem 42 (by decide +kernel) (by decide +kernel)
theorem ew_43 : (.instanceMethod ⟨"ExtentDisk$Platter", "<init>", "(I)V"⟩ : Cond) ∈ ew_T := ew_mem 43 (by decide +kernel) (by decide +kernel)
theorem ew_44 : (.code ⟨"ExtentDisk$Platter", "<init>", "(I)V"⟩ prog_3_method_1_code 2 none : Cond) ∈ ew_T := ew_mem 44 rfl rfl
theorem ew_45 : (.methodLink "ExtentDisk$Platter" 3 ⟨"java/lang/Object", "<init>", "()V"⟩ : Cond) ∈ ew_T := ew_mem 45 (by decide +kernel) (by decide +kernel)
theorem ew_46 : (.fieldLink "ExtentDisk$Platter" 9 "ExtentDisk$Platter" "bytes" "[B" : Cond) ∈ ew_T := ew_mem 46 (by decide +kernel) (by decide +kernel)
theorem ew_47 : (.fieldLink "ExtentDisk$Platter" 19 "ExtentDisk$Platter" "down" "Z" : Cond) ∈ ew_T := ew_mem 47 (by decide +kernel) (by decide +kernel)
theorem ew_48 : (.fieldLink "ExtentDisk" 62 "ExtentDisk$Platter" "down" "Z" : Cond) ∈ ew_T := ew_mem 48 (by decide +kernel) (by decide +kernel)
theorem ew_49 : (.fieldLink "ExtentDisk$Platter" 29 "ExtentDisk$Platter" "written" "I" : Cond) ∈ ew_T := ew_mem 49 (by decide +kernel) (by decide +kernel)
theorem ew_50 : (.fieldLink "ExtentDisk" 163 "ExtentDisk$Platter" "written" "I" : Cond) ∈ ew_T := ew_mem 50 (by decide +kernel) (by decide +kernel)
theorem ew_51 : (.fieldLink "ExtentDisk$Platter" 15 "ExtentDisk$Platter" "powerLeft" "I" : Cond) ∈ ew_T := ew_mem 51 (by decide +kernel) (by decide +kernel)
theorem ew_52 : (.laysFinal "ExtentDisk$Platter" "ExtentDisk$Platter" "bytes" "[B" : Cond) ∈ ew_T := ew_mem 52 (by decide +kernel) (by decide +kernel)
theorem ew_54 : (.lays "ExtentDisk$Platter" "ExtentDisk$Platter" "down" "Z" : Cond) ∈ ew_T := ew_mem 54 (by decide +kernel) (by decide +kernel)
theorem ew_56 : (.lays "ExtentDisk$Platter" "ExtentDisk$Platter" "written" "I" : Cond) ∈ ew_T := ew_mem 56 (by decide +kernel) (by decide +kernel)
theorem ew_58 : (.lays "ExtentDisk$Platter" "ExtentDisk$Platter" "powerLeft" "I" : Cond) ∈ ew_T := ew_mem 58 (by decide +kernel) (by decide +kernel)
theorem ew_61 : (.arrayClass .byte : Cond) ∈ ew_T := ew_mem 61 (by decide +kernel) (by decide +kernel)
theorem ew_62 : (.classLink "ExtentDisk" 27 "ExtentDisk$Tape" : Cond) ∈ ew_T := ew_mem 62 (by decide +kernel) (by decide +kernel)
theorem ew_63 : (.instantiable "ExtentDisk$Tape" 2 : Cond) ∈ ew_T := ew_mem 63 (by decide +kernel) (by decide +kernel)
theorem ew_64 : (.methodLink "ExtentDisk" 29 ⟨"ExtentDisk$Tape", "<init>", "(I)V"⟩ : Cond) ∈ ew_T := ew_mem 64 (by decide +kernel) (by decide +kernel)
theorem ew_65 : (.instanceMethod ⟨"ExtentDisk$Tape", "<init>", "(I)V"⟩ : Cond) ∈ ew_T := ew_mem 65 (by decide +kernel) (by decide +kernel)
theorem ew_66 : (.code ⟨"ExtentDisk$Tape", "<init>", "(I)V"⟩ prog_4_method_1_code 2 none : Cond) ∈ ew_T := ew_mem 66 rfl rfl
theorem ew_67 : (.methodLink "ExtentDisk$Tape" 3 ⟨"java/lang/Object", "<init>", "()V"⟩ : Cond) ∈ ew_T := ew_mem 67 (by decide +kernel) (by decide +kernel)
theorem ew_68 : (.fieldLink "ExtentDisk$Tape" 9 "ExtentDisk$Tape" "bytes" "[B" : Cond) ∈ ew_T := ew_mem 68 (by decide +kernel) (by decide +kernel)
theorem ew_69 : (.fieldLink "ExtentDisk" 173 "ExtentDisk$Tape" "bytes" "[B" : Cond) ∈ ew_T := ew_mem 69 (by decide +kernel) (by decide +kernel)
theorem ew_70 : (.fieldLink "ExtentDisk$Tape" 15 "ExtentDisk$Tape" "length" "I" : Cond) ∈ ew_T := ew_mem 70 (by decide +kernel) (by decide +kernel)
theorem ew_71 : (.fieldLink "ExtentDisk" 79 "ExtentDisk$Tape" "length" "I" : Cond) ∈ ew_T := ew_mem 71 (by decide +kernel) (by decide +kernel)
theorem ew_72 : (.laysFinal "ExtentDisk$Tape" "ExtentDisk$Tape" "bytes" "[B" : Cond) ∈ ew_T := ew_mem 72 (by decide +kernel) (by decide +kernel)
theorem ew_74 : (.lays "ExtentDisk$Tape" "ExtentDisk$Tape" "length" "I" : Cond) ∈ ew_T := ew_mem 74 (by decide +kernel) (by decide +kernel)
theorem ew_77 : (.classLink "ExtentDisk" 45 "ExtentDisk$Manifest" : Cond) ∈ ew_T := ew_mem 77 (by decide +kernel) (by decide +kernel)
theorem ew_78 : (.instantiable "ExtentDisk$Manifest" 6 : Cond) ∈ ew_T := ew_mem 78 (by decide +kernel) (by decide +kernel)
theorem ew_80 : (.instanceMethod ⟨"ExtentDisk$Manifest", "<init>", "()V"⟩ : Cond) ∈ ew_T := ew_mem 80 (by decide +kernel) (by decide +kernel)
theorem ew_81 : (.code ⟨"ExtentDisk$Manifest", "<init>", "()V"⟩ prog_2_method_1_code 1 none : Cond) ∈ ew_T := ew_mem 81 rfl rfl
theorem ew_82 : (.methodLink "ExtentDisk$Manifest" 5 ⟨"java/lang/Object", "<init>", "()V"⟩ : Cond) ∈ ew_T := ew_mem 82 (by decide +kernel) (by decide +kernel)
theorem ew_83 : (.fieldLink "ExtentDisk$Manifest" 11 "ExtentDisk$Manifest" "labels" "[I" : Cond) ∈ ew_T := ew_mem 83 (by decide +kernel) (by decide +kernel)
theorem ew_84 : (.fieldLink "ExtentDisk" 120 "ExtentDisk$Manifest" "labels" "[I" : Cond) ∈ ew_T := ew_mem 84 (by decide +kernel) (by decide +kernel)
theorem ew_85 : (.fieldLink "ExtentDisk$Manifest" 15 "ExtentDisk$Manifest" "firsts" "[I" : Cond) ∈ ew_T := ew_mem 85 (by decide +kernel) (by decide +kernel)
theorem ew_86 : (.fieldLink "ExtentDisk" 123 "ExtentDisk$Manifest" "firsts" "[I" : Cond) ∈ ew_T := ew_mem 86 (by decide +kernel) (by decide +kernel)
theorem ew_87 : (.fieldLink "ExtentDisk$Manifest" 18 "ExtentDisk$Manifest" "sizes" "[I" : Cond) ∈ ew_T := ew_mem 87 (by decide +kernel) (by decide +kernel)
theorem ew_88 : (.fieldLink "ExtentDisk" 126 "ExtentDisk$Manifest" "sizes" "[I" : Cond) ∈ ew_T := ew_mem 88 (by decide +kernel) (by decide +kernel)
theorem ew_89 : (.fieldLink "ExtentDisk$Manifest" 21 "ExtentDisk$Manifest" "notes" "[I" : Cond) ∈ ew_T := ew_mem 89 (by decide +kernel) (by decide +kernel)
theorem ew_90 : (.fieldLink "ExtentDisk" 90 "ExtentDisk$Manifest" "notes" "[I" : Cond) ∈ ew_T := ew_mem 90 (by decide +kernel) (by decide +kernel)
theorem ew_91 : (.fieldLink "ExtentDisk$Manifest" 24 "ExtentDisk$Manifest" "extents" "I" : Cond) ∈ ew_T := ew_mem 91 (by decide +kernel) (by decide +kernel)
theorem ew_92 : (.fieldLink "ExtentDisk" 160 "ExtentDisk$Manifest" "extents" "I" : Cond) ∈ ew_T := ew_mem 92 (by decide +kernel) (by decide +kernel)
theorem ew_93 : (.fieldLink "ExtentDisk$Manifest" 28 "ExtentDisk$Manifest" "changes" "I" : Cond) ∈ ew_T := ew_mem 93 (by decide +kernel) (by decide +kernel)
theorem ew_94 : (.fieldLink "ExtentDisk" 148 "ExtentDisk$Manifest" "changes" "I" : Cond) ∈ ew_T := ew_mem 94 (by decide +kernel) (by decide +kernel)
theorem ew_95 : (.laysFinal "ExtentDisk$Manifest" "ExtentDisk$Manifest" "labels" "[I" : Cond) ∈ ew_T := ew_mem 95 (by decide +kernel) (by decide +kernel)
theorem ew_97 : (.laysFinal "ExtentDisk$Manifest" "ExtentDisk$Manifest" "firsts" "[I" : Cond) ∈ ew_T := ew_mem 97 (by decide +kernel) (by decide +kernel)
theorem ew_99 : (.laysFinal "ExtentDisk$Manifest" "ExtentDisk$Manifest" "sizes" "[I" : Cond) ∈ ew_T := ew_mem 99 (by decide +kernel) (by decide +kernel)
theorem ew_101 : (.laysFinal "ExtentDisk$Manifest" "ExtentDisk$Manifest" "notes" "[I" : Cond) ∈ ew_T := ew_mem 101 (by decide +kernel) (by decide +kernel)
theorem ew_103 : (.lays "ExtentDisk$Manifest" "ExtentDisk$Manifest" "extents" "I" : Cond) ∈ ew_T := ew_mem 103 (by decide +kernel) (by decide +kernel)
theorem ew_105 : (.lays "ExtentDisk$Manifest" "ExtentDisk$Manifest" "changes" "I" : Cond) ∈ ew_T := ew_mem 105 (by decide +kernel) (by decide +kernel)
theorem ew_108 : (.arrayClass .int : Cond) ∈ ew_T := ew_mem 108 (by decide +kernel) (by decide +kernel)
theorem ew_109 : (.fieldLink "ExtentDisk" 23 "ExtentDisk" "platter" "LExtentDisk$Platter;" : Cond) ∈ ew_T := ew_mem 109 (by decide +kernel) (by decide +kernel)
theorem ew_110 : (.fieldLink "ExtentDisk" 30 "ExtentDisk" "tape" "LExtentDisk$Tape;" : Cond) ∈ ew_T := ew_mem 110 (by decide +kernel) (by decide +kernel)
theorem ew_111 : (.fieldLink "ExtentDisk" 34 "ExtentDisk" "wishes" "[I" : Cond) ∈ ew_T := ew_mem 111 (by decide +kernel) (by decide +kernel)
theorem ew_112 : (.fieldLink "ExtentDisk" 38 "ExtentDisk" "page" "[B" : Cond) ∈ ew_T := ew_mem 112 (by decide +kernel) (by decide +kernel)
theorem ew_113 : (.fieldLink "ExtentDisk" 42 "ExtentDisk" "tenants" "[I" : Cond) ∈ ew_T := ew_mem 113 (by decide +kernel) (by decide +kernel)
theorem ew_114 : (.fieldLink "ExtentDisk" 48 "ExtentDisk" "now" "LExtentDisk$Manifest;" : Cond) ∈ ew_T := ew_mem 114 (by decide +kernel) (by decide +kernel)
theorem ew_115 : (.fieldLink "ExtentDisk" 52 "ExtentDisk" "next" "LExtentDisk$Manifest;" : Cond) ∈ ew_T := ew_mem 115 (by decide +kernel) (by decide +kernel)
theorem ew_116 : (.laysFinal "ExtentDisk" "ExtentDisk" "platter" "LExtentDisk$Platter;" : Cond) ∈ ew_T := ew_mem 116 (by decide +kernel) (by decide +kernel)
theorem ew_118 : (.laysFinal "ExtentDisk" "ExtentDisk" "tape" "LExtentDisk$Tape;" : Cond) ∈ ew_T := ew_mem 118 (by decide +kernel) (by decide +kernel)
theorem ew_120 : (.laysFinal "ExtentDisk" "ExtentDisk" "wishes" "[I" : Cond) ∈ ew_T := ew_mem 120 (by decide +kernel) (by decide +kernel)
theorem ew_122 : (.laysFinal "ExtentDisk" "ExtentDisk" "page" "[B" : Cond) ∈ ew_T := ew_mem 122 (by decide +kernel) (by decide +kernel)
theorem ew_124 : (.laysFinal "ExtentDisk" "ExtentDisk" "tenants" "[I" : Cond) ∈ ew_T := ew_mem 124 (by decide +kernel) (by decide +kernel)
theorem ew_126 : (.lays "ExtentDisk" "ExtentDisk" "now" "LExtentDisk$Manifest;" : Cond) ∈ ew_T := ew_mem 126 (by decide +kernel) (by decide +kernel)
theorem ew_128 : (.lays "ExtentDisk" "ExtentDisk" "next" "LExtentDisk$Manifest;" : Cond) ∈ ew_T := ew_mem 128 (by decide +kernel) (by decide +kernel)
theorem ew_134 : (.code ⟨"ExtentDisk", "recover", "()I"⟩ prog_1_method_11_code 1 (some .int) : Cond) ∈ ew_T := ew_mem 134 rfl rfl
theorem ew_135 : (.methodLink "ExtentDisk" 138 ⟨"ExtentDisk$Platter", "limitPower", "(I)V"⟩ : Cond) ∈ ew_T := ew_mem 135 (by decide +kernel) (by decide +kernel)
theorem ew_136 : (.instanceMethod ⟨"ExtentDisk$Platter", "limitPower", "(I)V"⟩ : Cond) ∈ ew_T := ew_mem 136 (by decide +kernel) (by decide +kernel)
theorem ew_137 : (.selects "ExtentDisk$Platter" ⟨"ExtentDisk$Platter", "limitPower", "(I)V"⟩ ⟨"ExtentDisk$Platter", "limitPower", "(I)V"⟩ : Cond) ∈ ew_T := ew_mem 137 (by decide +kernel) (by decide +kernel)
theorem ew_138 : (.code ⟨"ExtentDisk$Platter", "limitPower", "(I)V"⟩ prog_3_method_2_code 2 none : Cond) ∈ ew_T := ew_mem 138 rfl rfl
theorem ew_139 : (.methodLink "ExtentDisk" 144 ⟨"ExtentDisk$Manifest", "load", "(LExtentDisk$Platter;I)V"⟩ : Cond) ∈ ew_T := ew_mem 139 (by decide +kernel) (by decide +kernel)
theorem ew_140 : (.instanceMethod ⟨"ExtentDisk$Manifest", "load", "(LExtentDisk$Platter;I)V"⟩ : Cond) ∈ ew_T := ew_mem 140 (by decide +kernel) (by decide +kernel)
theorem ew_141 : (.selects "ExtentDisk$Manifest" ⟨"ExtentDisk$Manifest", "load", "(LExtentDisk$Platter;I)V"⟩ ⟨"ExtentDisk$Manifest", "load", "(LExtentDisk$Platter;I)V"⟩ : Cond) ∈ ew_T := ew_mem 141 (by decide +kernel) (by decide +kernel)
theorem ew_142 : (.code ⟨"ExtentDisk$Manifest", "load", "(LExtentDisk$Platter;I)V"⟩ prog_2_method_9_code 7 none : Cond) ∈ ew_T := ew_mem 142 rfl rfl
theorem ew_143 : (.methodLink "ExtentDisk$Manifest" 37 ⟨"ExtentDisk$Manifest", "clear", "()V"⟩ : Cond) ∈ ew_T := ew_mem 143 (by decide +kernel) (by decide +kernel)
theorem ew_144 : (.instanceMethod ⟨"ExtentDisk$Manifest", "clear", "()V"⟩ : Cond) ∈ ew_T := ew_mem 144 (by decide +kernel) (by decide +kernel)
theorem ew_145 : (.selects "ExtentDisk$Manifest" ⟨"ExtentDisk$Manifest", "clear", "()V"⟩ ⟨"ExtentDisk$Manifest", "clear", "()V"⟩ : Cond) ∈ ew_T := ew_mem 145 (by decide +kernel) (by decide +kernel)
theorem ew_146 : (.code ⟨"ExtentDisk$Manifest", "clear", "()V"⟩ prog_2_method_3_code 1 none : Cond) ∈ ew_T := ew_mem 146 rfl rfl
theorem ew_147 : (.methodLink "ExtentDisk$Manifest" 31 ⟨"java/util/Arrays", "fill", "([II)V"⟩ : Cond) ∈ ew_T := ew_mem 147 (by decide +kernel) (by decide +kernel)
theorem ew_148 : (.static ⟨"java/util/Arrays", "fill", "([II)V"⟩ : Cond) ∈ ew_T := ew_mem 148 (by decide +kernel) (by decide +kernel)
theorem ew_149 : (.code ⟨"java/util/Arrays", "fill", "([II)V"⟩ prog_15_method_103_code 4 none : Cond) ∈ ew_T := ew_mem 149 rfl rfl
theorem ew_150 : (.methodLink "ExtentDisk$Manifest" 58 ⟨"ExtentDisk$Platter", "readInt", "(I)I"⟩ : Cond) ∈ ew_T := ew_mem 150 (by decide +kernel) (by decide +kernel)
theorem ew_151 : (.instanceMethod ⟨"ExtentDisk$Platter", "readInt", "(I)I"⟩ : Cond) ∈ ew_T := ew_mem 151 (by decide +kernel) (by decide +kernel)
theorem ew_152 : (.selects "ExtentDisk$Platter" ⟨"ExtentDisk$Platter", "readInt", "(I)I"⟩ ⟨"ExtentDisk$Platter", "readInt", "(I)I"⟩ : Cond) ∈ ew_T := ew_mem 152 (by decide +kernel) (by decide +kernel)
theorem ew_153 : (.code ⟨"ExtentDisk$Platter", "readInt", "(I)I"⟩ prog_3_method_5_code 2 (some .int) : Cond) ∈ ew_T := ew_mem 153 rfl rfl
theorem ew_154 : (.methodLink "ExtentDisk$Platter" 36 ⟨"ExtentDisk$Platter", "read", "(I)I"⟩ : Cond) ∈ ew_T := ew_mem 154 (by decide +kernel) (by decide +kernel)
theorem ew_155 : (.instanceMethod ⟨"ExtentDisk$Platter", "read", "(I)I"⟩ : Cond) ∈ ew_T := ew_mem 155 (by decide +kernel) (by decide +kernel)
theorem ew_156 : (.selects "ExtentDisk$Platter" ⟨"ExtentDisk$Platter", "read", "(I)I"⟩ ⟨"ExtentDisk$Platter", "read", "(I)I"⟩ : Cond) ∈ ew_T := ew_mem 156 (by decide +kernel) (by decide +kernel)
theorem ew_157 : (.code ⟨"ExtentDisk$Platter", "read", "(I)I"⟩ prog_3_method_4_code 2 (some .int) : Cond) ∈ ew_T := ew_mem 157 rfl rfl
theorem ew_158 : (.methodLink "ExtentDisk$Manifest" 63 ⟨"java/lang/Math", "min", "(II)I"⟩ : Cond) ∈ ew_T := ew_mem 158 (by decide +kernel) (by decide +kernel)
theorem ew_159 : (.methodLink "ExtentDisk$Manifest" 40 ⟨"ExtentDisk$Manifest", "add", "(III)Z"⟩ : Cond) ∈ ew_T := ew_mem 159 (by decide +kernel) (by decide +kernel)
theorem ew_160 : (.instanceMethod ⟨"ExtentDisk$Manifest", "add", "(III)Z"⟩ : Cond) ∈ ew_T := ew_mem 160 (by decide +kernel) (by decide +kernel)
theorem ew_161 : (.selects "ExtentDisk$Manifest" ⟨"ExtentDisk$Manifest", "add", "(III)Z"⟩ ⟨"ExtentDisk$Manifest", "add", "(III)Z"⟩ : Cond) ∈ ew_T := ew_mem 161 (by decide +kernel) (by decide +kernel)
theorem ew_162 : (.code ⟨"ExtentDisk$Manifest", "add", "(III)Z"⟩ prog_2_method_4_code 4 (some .boolean) : Cond) ∈ ew_T := ew_mem 162 rfl rfl
theorem ew_163 : (.methodLink "ExtentDisk" 151 ⟨"ExtentDisk", "makeNextCount", "()V"⟩ : Cond) ∈ ew_T := ew_mem 163 (by decide +kernel) (by decide +kernel)
theorem ew_165 : (.instanceMethod ⟨"ExtentDisk", "makeNextCount", "()V"⟩ : Cond) ∈ ew_T := ew_mem 165 (by decide +kernel) (by decide +kernel)
theorem ew_166 : (.code ⟨"ExtentDisk", "makeNextCount", "()V"⟩ prog_1_method_20_code 2 none : Cond) ∈ ew_T := ew_mem 166 rfl rfl
theorem ew_167 : (.methodLink "ExtentDisk" 154 ⟨"java/lang/System", "arraycopy", "(Ljava/lang/Object;ILjava/lang/Object;II)V"⟩ : Cond) ∈ ew_T := ew_mem 167 (by decide +kernel) (by decide +kernel)
theorem ew_168 : (.static ⟨"java/lang/System", "arraycopy", "(Ljava/lang/Object;ILjava/lang/Object;II)V"⟩ : Cond) ∈ ew_T := ew_mem 168 (by decide +kernel) (by decide +kernel)
theorem ew_169 : (.native ⟨"java/lang/System", "arraycopy", "(Ljava/lang/Object;ILjava/lang/Object;II)V"⟩ : Cond) ∈ ew_T := ew_mem 169 (by decide +kernel) (by decide +kernel)
theorem ew_173 : (.code ⟨"ExtentDisk", "isDown", "()Z"⟩ prog_1_method_12_code 1 (some .boolean) : Cond) ∈ ew_T := ew_mem 173 rfl rfl
theorem ew_177 : (.code ⟨"ExtentDisk", "writes", "()I"⟩ prog_1_method_13_code 1 (some .int) : Cond) ∈ ew_T := ew_mem 177 rfl rfl
theorem ew_189 : (.code ⟨"ExtentDisk", "put", "(JI)I"⟩ prog_1_method_2_code 5 (some .int) : Cond) ∈ ew_T := ew_mem 189 rfl rfl
theorem ew_190 : (.classLink "ExtentDisk" 55 "java/lang/IllegalArgumentException" : Cond) ∈ ew_T := ew_mem 190 (by decide +kernel) (by decide +kernel)
theorem ew_256 : (.methodLink "ExtentDisk" 66 ⟨"ExtentDisk$Tape", "hasRoomFor", "(I)Z"⟩ : Cond) ∈ ew_T := ew_mem 256 (by decide +kernel) (by decide +kernel)
theorem ew_257 : (.instanceMethod ⟨"ExtentDisk$Tape", "hasRoomFor", "(I)Z"⟩ : Cond) ∈ ew_T := ew_mem 257 (by decide +kernel) (by decide +kernel)
theorem ew_258 : (.selects "ExtentDisk$Tape" ⟨"ExtentDisk$Tape", "hasRoomFor", "(I)Z"⟩ ⟨"ExtentDisk$Tape", "hasRoomFor", "(I)Z"⟩ : Cond) ∈ ew_T := ew_mem 258 (by decide +kernel) (by decide +kernel)
theorem ew_259 : (.code ⟨"ExtentDisk$Tape", "hasRoomFor", "(I)Z"⟩ prog_4_method_2_code 2 (some .boolean) : Cond) ∈ ew_T := ew_mem 259 rfl rfl
theorem ew_260 : (.classLink "ExtentDisk" 70 "java/lang/IllegalStateException" : Cond) ∈ ew_T := ew_mem 260 (by decide +kernel) (by decide +kernel)
theorem ew_276 : (.methodLink "ExtentDisk" 75 ⟨"ExtentDisk$Tape", "append", "(B)V"⟩ : Cond) ∈ ew_T := ew_mem 276 (by decide +kernel) (by decide +kernel)
theorem ew_277 : (.instanceMethod ⟨"ExtentDisk$Tape", "append", "(B)V"⟩ : Cond) ∈ ew_T := ew_mem 277 (by decide +kernel) (by decide +kernel)
theorem ew_278 : (.selects "ExtentDisk$Tape" ⟨"ExtentDisk$Tape", "append", "(B)V"⟩ ⟨"ExtentDisk$Tape", "append", "(B)V"⟩ : Cond) ∈ ew_T := ew_mem 278 (by decide +kernel) (by decide +kernel)
theorem ew_279 : (.code ⟨"ExtentDisk$Tape", "append", "(B)V"⟩ prog_4_method_3_code 2 none : Cond) ∈ ew_T := ew_mem 279 rfl rfl
theorem ew_286 : (.code ⟨"ExtentDisk", "fill", "(II)I"⟩ prog_1_method_3_code 4 (some .int) : Cond) ∈ ew_T := ew_mem 286 rfl rfl
theorem ew_287 : (.constant "ExtentDisk" 83 100000 : Cond) ∈ ew_T := ew_mem 287 (by decide +kernel) (by decide +kernel)
theorem ew_295 : (.code ⟨"ExtentDisk", "drop", "()I"⟩ prog_1_method_4_code 2 (some .int) : Cond) ∈ ew_T := ew_mem 295 rfl rfl
theorem ew_303 : (.code ⟨"ExtentDisk", "wish", "(II)I"⟩ prog_1_method_5_code 4 (some .int) : Cond) ∈ ew_T := ew_mem 303 rfl rfl
theorem ew_311 : (.code ⟨"ExtentDisk", "note", "(I)I"⟩ prog_1_method_6_code 2 (some .int) : Cond) ∈ ew_T := ew_mem 311 rfl rfl
theorem ew_318 : (.code ⟨"ExtentDisk", "change", "(III)I"⟩ prog_1_method_7_code 5 (some .int) : Cond) ∈ ew_T := ew_mem 318 rfl rfl
theorem ew_319 : (.methodLink "ExtentDisk" 93 ⟨"ExtentDisk$Manifest", "follow", "(LExtentDisk$Manifest;II)V"⟩ : Cond) ∈ ew_T := ew_mem 319 (by decide +kernel) (by decide +kernel)
theorem ew_320 : (.instanceMethod ⟨"ExtentDisk$Manifest", "follow", "(LExtentDisk$Manifest;II)V"⟩ : Cond) ∈ ew_T := ew_mem 320 (by decide +kernel) (by decide +kernel)
theorem ew_321 : (.selects "ExtentDisk$Manifest" ⟨"ExtentDisk$Manifest", "follow", "(LExtentDisk$Manifest;II)V"⟩ ⟨"ExtentDisk$Manifest", "follow", "(LExtentDisk$Manifest;II)V"⟩ : Cond) ∈ ew_T := ew_mem 321 (by decide +kernel) (by decide +kernel)
theorem ew_322 : (.code ⟨"ExtentDisk$Manifest", "follow", "(LExtentDisk$Manifest;II)V"⟩ prog_2_method_5_code 6 none : Cond) ∈ ew_T := ew_mem 322 rfl rfl
theorem ew_323 : (.methodLink "ExtentDisk" 97 ⟨"ExtentDisk$Manifest", "takeNotes", "([I)V"⟩ : Cond) ∈ ew_T := ew_mem 323 (by decide +kernel) (by decide +kernel)
theorem ew_324 : (.instanceMethod ⟨"ExtentDisk$Manifest", "takeNotes", "([I)V"⟩ : Cond) ∈ ew_T := ew_mem 324 (by decide +kernel) (by decide +kernel)
theorem ew_325 : (.selects "ExtentDisk$Manifest" ⟨"ExtentDisk$Manifest", "takeNotes", "([I)V"⟩ ⟨"ExtentDisk$Manifest", "takeNotes", "([I)V"⟩ : Cond) ∈ ew_T := ew_mem 325 (by decide +kernel) (by decide +kernel)
theorem ew_326 : (.code ⟨"ExtentDisk$Manifest", "takeNotes", "([I)V"⟩ prog_2_method_6_code 3 none : Cond) ∈ ew_T := ew_mem 326 rfl rfl
theorem ew_327 : (.methodLink "ExtentDisk" 101 ⟨"ExtentDisk", "blocksFor", "(I)I"⟩ : Cond) ∈ ew_T := ew_mem 327 (by decide +kernel) (by decide +kernel)
theorem ew_328 : (.static ⟨"ExtentDisk", "blocksFor", "(I)I"⟩ : Cond) ∈ ew_T := ew_mem 328 (by decide +kernel) (by decide +kernel)
theorem ew_329 : (.code ⟨"ExtentDisk", "blocksFor", "(I)I"⟩ prog_1_method_16_code 1 (some .int) : Cond) ∈ ew_T := ew_mem 329 rfl rfl
theorem ew_330 : (.methodLink "ExtentDisk" 105 ⟨"ExtentDisk", "firstFreeRow", "(I)I"⟩ : Cond) ∈ ew_T := ew_mem 330 (by decide +kernel) (by decide +kernel)
theorem ew_332 : (.instanceMethod ⟨"ExtentDisk", "firstFreeRow", "(I)I"⟩ : Cond) ∈ ew_T := ew_mem 332 (by decide +kernel) (by decide +kernel)
theorem ew_333 : (.code ⟨"ExtentDisk", "firstFreeRow", "(I)I"⟩ prog_1_method_18_code 4 (some .int) : Cond) ∈ ew_T := ew_mem 333 rfl rfl
theorem ew_334 : (.methodLink "ExtentDisk" 170 ⟨"ExtentDisk$Manifest", "countTenants", "([I)V"⟩ : Cond) ∈ ew_T := ew_mem 334 (by decide +kernel) (by decide +kernel)
theorem ew_335 : (.instanceMethod ⟨"ExtentDisk$Manifest", "countTenants", "([I)V"⟩ : Cond) ∈ ew_T := ew_mem 335 (by decide +kernel) (by decide +kernel)
theorem ew_336 : (.selects "ExtentDisk$Manifest" ⟨"ExtentDisk$Manifest", "countTenants", "([I)V"⟩ ⟨"ExtentDisk$Manifest", "countTenants", "([I)V"⟩ : Cond) ∈ ew_T := ew_mem 336 (by decide +kernel) (by decide +kernel)
theorem ew_337 : (.code ⟨"ExtentDisk$Manifest", "countTenants", "([I)V"⟩ prog_2_method_7_code 5 none : Cond) ∈ ew_T := ew_mem 337 rfl rfl
theorem ew_339 : (.methodLink "ExtentDisk$Manifest" 48 ⟨"java/lang/Math", "max", "(II)I"⟩ : Cond) ∈ ew_T := ew_mem 339 (by decide +kernel) (by decide +kernel)
theorem ew_340 : (.methodLink "ExtentDisk" 108 ⟨"ExtentDisk$Manifest", "add", "(III)Z"⟩ : Cond) ∈ ew_T := ew_mem 340 (by decide +kernel) (by decide +kernel)
theorem ew_341 : (.methodLink "ExtentDisk" 112 ⟨"ExtentDisk", "carryOut", "(I)I"⟩ : Cond) ∈ ew_T := ew_mem 341 (by decide +kernel) (by decide +kernel)
theorem ew_343 : (.instanceMethod ⟨"ExtentDisk", "carryOut", "(I)I"⟩ : Cond) ∈ ew_T := ew_mem 343 (by decide +kernel) (by decide +kernel)
theorem ew_344 : (.code ⟨"ExtentDisk", "carryOut", "(I)I"⟩ prog_1_method_19_code 4 (some .int) : Cond) ∈ ew_T := ew_mem 344 rfl rfl
theorem ew_345 : (.methodLink "ExtentDisk" 176 ⟨"ExtentDisk$Platter", "writeBlock", "(I[BI)Z"⟩ : Cond) ∈ ew_T := ew_mem 345 (by decide +kernel) (by decide +kernel)
theorem ew_346 : (.instanceMethod ⟨"ExtentDisk$Platter", "writeBlock", "(I[BI)Z"⟩ : Cond) ∈ ew_T := ew_mem 346 (by decide +kernel) (by decide +kernel)
theorem ew_347 : (.selects "ExtentDisk$Platter" ⟨"ExtentDisk$Platter", "writeBlock", "(I[BI)Z"⟩ ⟨"ExtentDisk$Platter", "writeBlock", "(I[BI)Z"⟩ : Cond) ∈ ew_T := ew_mem 347 (by decide +kernel) (by decide +kernel)
theorem ew_348 : (.code ⟨"ExtentDisk$Platter", "writeBlock", "(I[BI)Z"⟩ prog_3_method_3_code 5 (some .boolean) : Cond) ∈ ew_T := ew_mem 348 rfl rfl
theorem ew_349 : (.methodLink "ExtentDisk$Platter" 23 ⟨"java/lang/System", "arraycopy", "(Ljava/lang/Object;ILjava/lang/Object;II)V"⟩ : Cond) ∈ ew_T := ew_mem 349 (by decide +kernel) (by decide +kernel)
theorem ew_350 : (.methodLink "ExtentDisk$Platter" 32 ⟨"ExtentDisk$Platter", "limitPower", "(I)V"⟩ : Cond) ∈ ew_T := ew_mem 350 (by decide +kernel) (by decide +kernel)
theorem ew_351 : (.methodLink "ExtentDisk" 141 ⟨"ExtentDisk", "forget", "()V"⟩ : Cond) ∈ ew_T := ew_mem 351 (by decide +kernel) (by decide +kernel)
theorem ew_353 : (.instanceMethod ⟨"ExtentDisk", "forget", "()V"⟩ : Cond) ∈ ew_T := ew_mem 353 (by decide +kernel) (by decide +kernel)
theorem ew_354 : (.code ⟨"ExtentDisk", "forget", "()V"⟩ prog_1_method_21_code 1 none : Cond) ∈ ew_T := ew_mem 354 rfl rfl
theorem ew_355 : (.methodLink "ExtentDisk" 184 ⟨"ExtentDisk$Manifest", "clear", "()V"⟩ : Cond) ∈ ew_T := ew_mem 355 (by decide +kernel) (by decide +kernel)
theorem ew_356 : (.methodLink "ExtentDisk" 187 ⟨"java/util/Arrays", "fill", "([II)V"⟩ : Cond) ∈ ew_T := ew_mem 356 (by decide +kernel) (by decide +kernel)
theorem ew_357 : (.methodLink "ExtentDisk" 180 ⟨"ExtentDisk$Manifest", "store", "([B)V"⟩ : Cond) ∈ ew_T := ew_mem 357 (by decide +kernel) (by decide +kernel)
theorem ew_358 : (.instanceMethod ⟨"ExtentDisk$Manifest", "store", "([B)V"⟩ : Cond) ∈ ew_T := ew_mem 358 (by decide +kernel) (by decide +kernel)
theorem ew_359 : (.selects "ExtentDisk$Manifest" ⟨"ExtentDisk$Manifest", "store", "([B)V"⟩ ⟨"ExtentDisk$Manifest", "store", "([B)V"⟩ : Cond) ∈ ew_T := ew_mem 359 (by decide +kernel) (by decide +kernel)
theorem ew_360 : (.code ⟨"ExtentDisk$Manifest", "store", "([B)V"⟩ prog_2_method_8_code 4 none : Cond) ∈ ew_T := ew_mem 360 rfl rfl
theorem ew_361 : (.methodLink "ExtentDisk$Manifest" 54 ⟨"ExtentDisk$Manifest", "storeInt", "([BII)V"⟩ : Cond) ∈ ew_T := ew_mem 361 (by decide +kernel) (by decide +kernel)
theorem ew_362 : (.static ⟨"ExtentDisk$Manifest", "storeInt", "([BII)V"⟩ : Cond) ∈ ew_T := ew_mem 362 (by decide +kernel) (by decide +kernel)
theorem ew_363 : (.code ⟨"ExtentDisk$Manifest", "storeInt", "([BII)V"⟩ prog_2_method_10_code 3 none : Cond) ∈ ew_T := ew_mem 363 rfl rfl
theorem ew_370 : (.code ⟨"ExtentDisk", "extent", "(II)I"⟩ prog_1_method_8_code 3 (some .int) : Cond) ∈ ew_T := ew_mem 370 rfl rfl
theorem ew_371 : (.methodLink "ExtentDisk" 115 ⟨"ExtentDisk$Manifest", "holds", "(I)Z"⟩ : Cond) ∈ ew_T := ew_mem 371 (by decide +kernel) (by decide +kernel)
theorem ew_372 : (.instanceMethod ⟨"ExtentDisk$Manifest", "holds", "(I)Z"⟩ : Cond) ∈ ew_T := ew_mem 372 (by decide +kernel) (by decide +kernel)
theorem ew_373 : (.selects "ExtentDisk$Manifest" ⟨"ExtentDisk$Manifest", "holds", "(I)Z"⟩ ⟨"ExtentDisk$Manifest", "holds", "(I)Z"⟩ : Cond) ∈ ew_T := ew_mem 373 (by decide +kernel) (by decide +kernel)
theorem ew_374 : (.code ⟨"ExtentDisk$Manifest", "holds", "(I)Z"⟩ prog_2_method_2_code 2 (some .boolean) : Cond) ∈ ew_T := ew_mem 374 rfl rfl
theorem ew_383 : (.code ⟨"ExtentDisk", "byteAt", "(II)I"⟩ prog_1_method_9_code 3 (some .int) : Cond) ∈ ew_T := ew_mem 383 rfl rfl
theorem ew_385 : (.methodLink "ExtentDisk" 133 ⟨"ExtentDisk$Platter", "read", "(I)I"⟩ : Cond) ∈ ew_T := ew_mem 385 (by decide +kernel) (by decide +kernel)
theorem ew_392 : (.code ⟨"ExtentDisk", "crash", "(I)V"⟩ prog_1_method_10_code 2 none : Cond) ∈ ew_T := ew_mem 392 rfl rfl
theorem ew_400 : (.code ⟨"ExtentDisk", "count", "(I)I"⟩ prog_1_method_14_code 2 (some .int) : Cond) ∈ ew_T := ew_mem 400 rfl rfl
theorem ew_401 : (.methodLink "ExtentDisk" 166 ⟨"ExtentDisk", "freeBlocks", "()I"⟩ : Cond) ∈ ew_T := ew_mem 401 (by decide +kernel) (by decide +kernel)
theorem ew_403 : (.instanceMethod ⟨"ExtentDisk", "freeBlocks", "()I"⟩ : Cond) ∈ ew_T := ew_mem 403 (by decide +kernel) (by decide +kernel)
theorem ew_404 : (.code ⟨"ExtentDisk", "freeBlocks", "()I"⟩ prog_1_method_17_code 3 (some .int) : Cond) ∈ ew_T := ew_mem 404 rfl rfl
theorem ew_411 : (.code ⟨"ExtentDisk", "doubled", "()I"⟩ prog_1_method_15_code 3 (some .int) : Cond) ∈ ew_T := ew_mem 411 rfl rfl
theorem ew_436 : (.lays "ExtentDiskModel" "ExtentDiskModel" "code" "I" : Cond) ∈ ew_T := ew_mem 436 (by decide +kernel) (by decide +kernel)
theorem ew_438 : (.laysFinal "ExtentDiskModel" "ExtentDiskModel" "blocks" "I" : Cond) ∈ ew_T := ew_mem 438 (by decide +kernel) (by decide +kernel)
theorem ew_440 : (.lays "ExtentDiskModel" "ExtentDiskModel" "down" "Z" : Cond) ∈ ew_T := ew_mem 440 (by decide +kernel) (by decide +kernel)
theorem ew_442 : (.lays "ExtentDiskModel" "ExtentDiskModel" "writes" "I" : Cond) ∈ ew_T := ew_mem 442 (by decide +kernel) (by decide +kernel)
theorem ew_444 : (.lays "ExtentDiskModel" "ExtentDiskModel" "left" "I" : Cond) ∈ ew_T := ew_mem 444 (by decide +kernel) (by decide +kernel)
theorem ew_446 : (.lays "ExtentDiskModel" "ExtentDiskModel" "extents" "I" : Cond) ∈ ew_T := ew_mem 446 (by decide +kernel) (by decide +kernel)
theorem ew_448 : (.laysFinal "ExtentDiskModel" "ExtentDiskModel" "label" "[I" : Cond) ∈ ew_T := ew_mem 448 (by decide +kernel) (by decide +kernel)
theorem ew_450 : (.laysFinal "ExtentDiskModel" "ExtentDiskModel" "first" "[I" : Cond) ∈ ew_T := ew_mem 450 (by decide +kernel) (by decide +kernel)
theorem ew_452 : (.laysFinal "ExtentDiskModel" "ExtentDiskModel" "many" "[I" : Cond) ∈ ew_T := ew_mem 452 (by decide +kernel) (by decide +kernel)
theorem ew_454 : (.laysFinal "ExtentDiskModel" "ExtentDiskModel" "bytes" "[I" : Cond) ∈ ew_T := ew_mem 454 (by decide +kernel) (by decide +kernel)
theorem ew_456 : (.laysFinal "ExtentDiskModel" "ExtentDiskModel" "note" "[I" : Cond) ∈ ew_T := ew_mem 456 (by decide +kernel) (by decide +kernel)
theorem ew_458 : (.lays "ExtentDiskModel" "ExtentDiskModel" "changes" "I" : Cond) ∈ ew_T := ew_mem 458 (by decide +kernel) (by decide +kernel)
theorem ew_460 : (.laysFinal "ExtentDiskModel" "ExtentDiskModel" "disk" "[B" : Cond) ∈ ew_T := ew_mem 460 (by decide +kernel) (by decide +kernel)
theorem ew_462 : (.laysFinal "ExtentDiskModel" "ExtentDiskModel" "used" "[Z" : Cond) ∈ ew_T := ew_mem 462 (by decide +kernel) (by decide +kernel)
theorem ew_464 : (.laysFinal "ExtentDiskModel" "ExtentDiskModel" "wish" "[I" : Cond) ∈ ew_T := ew_mem 464 (by decide +kernel) (by decide +kernel)
theorem ew_466 : (.lays "ExtentDiskModel" "ExtentDiskModel" "taped" "I" : Cond) ∈ ew_T := ew_mem 466 (by decide +kernel) (by decide +kernel)
theorem ew_468 : (.laysFinal "ExtentDiskModel" "ExtentDiskModel" "tape" "[B" : Cond) ∈ ew_T := ew_mem 468 (by decide +kernel) (by decide +kernel)
theorem in_M : ∀ w ∈ u_ws R_M T_M 6, w ∈ ew_T := List.forall_mem_cons.mpr ⟨ew_95, List.forall_mem_cons.mpr ⟨ew_97, List.forall_mem_cons.mpr ⟨ew_99, List.forall_mem_cons.mpr ⟨ew_101, List.forall_mem_cons.mpr ⟨ew_103, List.forall_mem_cons.mpr ⟨ew_105, fun _ h => absurd h List.not_mem_nil⟩⟩⟩⟩⟩⟩
theorem in_P : ∀ w ∈ u_ws R_P T_P 4, w ∈ ew_T := List.forall_mem_cons.mpr ⟨ew_52, List.forall_mem_cons.mpr ⟨ew_54, List.forall_mem_cons.mpr ⟨ew_56, List.forall_mem_cons.mpr ⟨ew_58, fun _ h => absurd h List.not_mem_nil⟩⟩⟩⟩
theorem in_Tp : ∀ w ∈ u_ws R_Tp T_Tp 2, w ∈ ew_T := List.forall_mem_cons.mpr ⟨ew_72, List.forall_mem_cons.mpr ⟨ew_74, fun _ h => absurd h List.not_mem_nil⟩⟩
theorem in_D : ∀ w ∈ u_ws R_D T_D 7, w ∈ ew_T := List.forall_mem_cons.mpr ⟨ew_116, List.forall_mem_cons.mpr ⟨ew_118, List.forall_mem_cons.mpr ⟨ew_120, List.forall_mem_cons.mpr ⟨ew_122, List.forall_mem_cons.mpr ⟨ew_124, List.forall_mem_cons.mpr ⟨ew_126, List.forall_mem_cons.mpr ⟨ew_128, fun _ h => absurd h List.not_mem_nil⟩⟩⟩⟩⟩⟩⟩
theorem in_K : ∀ w ∈ u_ws R_K T_K 17, w ∈ ew_T := List.forall_mem_cons.mpr ⟨ew_436, List.forall_mem_cons.mpr ⟨ew_438, List.forall_mem_cons.mpr ⟨ew_440, List.forall_mem_cons.mpr ⟨ew_442, List.forall_mem_cons.mpr ⟨ew_444, List.forall_mem_cons.mpr ⟨ew_446, List.forall_mem_cons.mpr ⟨ew_448, List.forall_mem_cons.mpr ⟨ew_450, List.forall_mem_cons.mpr ⟨ew_452, List.forall_mem_cons.mpr ⟨ew_454, List.forall_mem_cons.mpr ⟨ew_456, List.forall_mem_cons.mpr ⟨ew_458, List.forall_mem_cons.mpr ⟨ew_460, List.forall_mem_cons.mpr ⟨ew_462, List.forall_mem_cons.mpr ⟨ew_464, List.forall_mem_cons.mpr ⟨ew_466, List.forall_mem_cons.mpr ⟨ew_468, fun _ h => absurd h List.not_mem_nil⟩⟩⟩⟩⟩⟩⟩⟩⟩⟩⟩⟩⟩⟩⟩⟩⟩
theorem ew_good {w : Cond} (h : w ∈ ew_T) : GoodIn ew_T (w :: ew_T) := fun v hv => by
  rcases List.mem_cons.mp hv with e | e
  · subst e; exact ⟨h, good_of_word (List.mem_filter.mp h).2⟩
  · exact ⟨e, good_of_word (List.mem_filter.mp e).2⟩
theorem ew_1 {w : Cond} (h : w ∈ ew_T) : w ∈ ew_T ∧ ((w.onTables && w.keeps) = true ∨ ∃ ty, w = .arrayClass ty) := ⟨h, good_of_word (List.mem_filter.mp h).2⟩
theorem ew_V {own C : String} {idx : Nat} {y : MethodName} {ws : List Cond} (h1 : Cond.methodLink own idx y ∈ ew_T) (h2 : Cond.instanceMethod y ∈ ew_T) (h3 : Cond.selects C y y ∈ ew_T) (h4 : Cond.initialized C ∈ ew_T) (h : GoodIn ew_T ws) : GoodIn ew_T (wsV own idx C y ws) := fun w hw => by
  rcases List.mem_append.mp hw with q | q
  · rcases List.mem_cons.mp q with e | q
    · subst e; exact ew_1 h1
    · rcases List.mem_cons.mp q with e | q
      · subst e; exact ew_1 h2
      · rcases List.mem_cons.mp q with e | q
        · subst e; exact ew_1 h3
        · rcases List.mem_cons.mp q with e | q
          · subst e; exact ew_1 h4
          · exact absurd q List.not_mem_nil
  · exact h w q
theorem ew_S {own : String} {idx : Nat} {y : MethodName} {ws : List Cond} (h1 : Cond.methodLink own idx y ∈ ew_T) (h2 : Cond.static y ∈ ew_T) (h3 : Cond.initialized y.cls ∈ ew_T) (h : GoodIn ew_T ws) : GoodIn ew_T (va_wsS own idx y ws) := fun w hw => by
  rcases List.mem_append.mp hw with q | q
  · rcases List.mem_cons.mp q with e | q
    · subst e; exact ew_1 h1
    · rcases List.mem_cons.mp q with e | q
      · subst e; exact ew_1 h2
      · rcases List.mem_cons.mp q with e | q
        · subst e; exact ew_1 h3
        · exact absurd q List.not_mem_nil
  · exact h w q
abbrev b_P_limitPower : ByteArray := prog_3_method_2_code
def y_P_limitPower : MethodName := ⟨R_P, "limitPower", "(I)V"⟩
abbrev w_P_limitPower : List Cond := .code y_P_limitPower b_P_limitPower 2 none :: ew_T
theorem g_P_limitPower : GoodIn ew_T w_P_limitPower := ew_good ew_138
theorem d_P_limitPower_0 : decode b_P_limitPower 0 = .ok (.aload_n 0, 1) := by decide +kernel
theorem d_P_limitPower_1 : decode b_P_limitPower 1 = .ok (.iload_n 1, 1) := by decide +kernel
theorem d_P_limitPower_2 : decode b_P_limitPower 2 = .ok (.putfield 15, 3) := by decide +kernel
theorem d_P_limitPower_5 : decode b_P_limitPower 5 = .ok (.aload_n 0, 1) := by decide +kernel
theorem d_P_limitPower_6 : decode b_P_limitPower 6 = .ok (.iload_n 1, 1) := by decide +kernel
theorem d_P_limitPower_7 : decode b_P_limitPower 7 = .ok (.ifCond .ne 7, 3) := by decide +kernel
theorem d_P_limitPower_10 : decode b_P_limitPower 10 = .ok (.iconst 1, 1) := by decide +kernel
theorem d_P_limitPower_11 : decode b_P_limitPower 11 = .ok (.goto 4, 3) := by decide +kernel
theorem d_P_limitPower_14 : decode b_P_limitPower 14 = .ok (.iconst 0, 1) := by decide +kernel
theorem d_P_limitPower_15 : decode b_P_limitPower 15 = .ok (.putfield 19, 3) := by decide +kernel
theorem d_P_limitPower_18 : decode b_P_limitPower 18 = .ok (.return_, 1) := by decide +kernel
abbrev b_P_read : ByteArray := prog_3_method_4_code
def y_P_read : MethodName := ⟨R_P, "read", "(I)I"⟩
abbrev w_P_read : List Cond := .code y_P_read b_P_read 2 (some .int) :: ew_T
theorem g_P_read : GoodIn ew_T w_P_read := ew_good ew_157
theorem d_P_read_0 : decode b_P_read 0 = .ok (.iload_n 1, 1) := by decide +kernel
theorem d_P_read_1 : decode b_P_read 1 = .ok (.ifCond .lt 25, 3) := by decide +kernel
theorem d_P_read_4 : decode b_P_read 4 = .ok (.iload_n 1, 1) := by decide +kernel
theorem d_P_read_5 : decode b_P_read 5 = .ok (.aload_n 0, 1) := by decide +kernel
theorem d_P_read_6 : decode b_P_read 6 = .ok (.getfield 9, 3) := by decide +kernel
theorem d_P_read_9 : decode b_P_read 9 = .ok (.arraylength, 1) := by decide +kernel
theorem d_P_read_10 : decode b_P_read 10 = .ok (.if_icmp .ge 16, 3) := by decide +kernel
theorem d_P_read_13 : decode b_P_read 13 = .ok (.aload_n 0, 1) := by decide +kernel
theorem d_P_read_14 : decode b_P_read 14 = .ok (.getfield 9, 3) := by decide +kernel
theorem d_P_read_17 : decode b_P_read 17 = .ok (.iload_n 1, 1) := by decide +kernel
theorem d_P_read_18 : decode b_P_read 18 = .ok (.baload, 1) := by decide +kernel
theorem d_P_read_19 : decode b_P_read 19 = .ok (.sipush 255, 3) := by decide +kernel
theorem d_P_read_22 : decode b_P_read 22 = .ok (.iand, 1) := by decide +kernel
theorem d_P_read_23 : decode b_P_read 23 = .ok (.goto 4, 3) := by decide +kernel
theorem d_P_read_26 : decode b_P_read 26 = .ok (.iconst 0, 1) := by decide +kernel
theorem d_P_read_27 : decode b_P_read 27 = .ok (.ireturn, 1) := by decide +kernel
abbrev b_P_readInt : ByteArray := prog_3_method_5_code
def y_P_readInt : MethodName := ⟨R_P, "readInt", "(I)I"⟩
abbrev w_P_readInt : List Cond := .code y_P_readInt b_P_readInt 2 (some .int) :: ew_T
theorem g_P_readInt : GoodIn ew_T w_P_readInt := ew_good ew_153
theorem d_P_readInt_0 : decode b_P_readInt 0 = .ok (.aload_n 0, 1) := by decide +kernel
theorem d_P_readInt_1 : decode b_P_readInt 1 = .ok (.iload_n 1, 1) := by decide +kernel
theorem d_P_readInt_2 : decode b_P_readInt 2 = .ok (.invokevirtual 36, 3) := by decide +kernel
theorem d_P_readInt_5 : decode b_P_readInt 5 = .ok (.bipush 24, 2) := by decide +kernel
theorem d_P_readInt_7 : decode b_P_readInt 7 = .ok (.ishl, 1) := by decide +kernel
theorem d_P_readInt_8 : decode b_P_readInt 8 = .ok (.aload_n 0, 1) := by decide +kernel
theorem d_P_readInt_9 : decode b_P_readInt 9 = .ok (.iload_n 1, 1) := by decide +kernel
theorem d_P_readInt_10 : decode b_P_readInt 10 = .ok (.iconst 1, 1) := by decide +kernel
theorem d_P_readInt_11 : decode b_P_readInt 11 = .ok (.iadd, 1) := by decide +kernel
theorem d_P_readInt_12 : decode b_P_readInt 12 = .ok (.invokevirtual 36, 3) := by decide +kernel
theorem d_P_readInt_15 : decode b_P_readInt 15 = .ok (.bipush 16, 2) := by decide +kernel
theorem d_P_readInt_17 : decode b_P_readInt 17 = .ok (.ishl, 1) := by decide +kernel
theorem d_P_readInt_18 : decode b_P_readInt 18 = .ok (.ior, 1) := by decide +kernel
theorem d_P_readInt_19 : decode b_P_readInt 19 = .ok (.aload_n 0, 1) := by decide +kernel
theorem d_P_readInt_20 : decode b_P_readInt 20 = .ok (.iload_n 1, 1) := by decide +kernel
theorem d_P_readInt_21 : decode b_P_readInt 21 = .ok (.iconst 2, 1) := by decide +kernel
theorem d_P_readInt_22 : decode b_P_readInt 22 = .ok (.iadd, 1) := by decide +kernel
theorem d_P_readInt_23 : decode b_P_readInt 23 = .ok (.invokevirtual 36, 3) := by decide +kernel
theorem d_P_readInt_26 : decode b_P_readInt 26 = .ok (.bipush 8, 2) := by decide +kernel
theorem d_P_readInt_28 : decode b_P_readInt 28 = .ok (.ishl, 1) := by decide +kernel
theorem d_P_readInt_29 : decode b_P_readInt 29 = .ok (.ior, 1) := by decide +kernel
theorem d_P_readInt_30 : decode b_P_readInt 30 = .ok (.aload_n 0, 1) := by decide +kernel
theorem d_P_readInt_31 : decode b_P_readInt 31 = .ok (.iload_n 1, 1) := by decide +kernel
theorem d_P_readInt_32 : decode b_P_readInt 32 = .ok (.iconst 3, 1) := by decide +kernel
theorem d_P_readInt_33 : decode b_P_readInt 33 = .ok (.iadd, 1) := by decide +kernel
theorem d_P_readInt_34 : decode b_P_readInt 34 = .ok (.invokevirtual 36, 3) := by decide +kernel
theorem d_P_readInt_37 : decode b_P_readInt 37 = .ok (.ior, 1) := by decide +kernel
theorem d_P_readInt_38 : decode b_P_readInt 38 = .ok (.ireturn, 1) := by decide +kernel
abbrev b_P_writeBlock : ByteArray := prog_3_method_3_code
def y_P_writeBlock : MethodName := ⟨R_P, "writeBlock", "(I[BI)Z"⟩
abbrev w_P_writeBlock : List Cond := .code y_P_writeBlock b_P_writeBlock 5 (some .boolean) :: ew_T
theorem g_P_writeBlock : GoodIn ew_T w_P_writeBlock := ew_good ew_348
theorem d_P_writeBlock_0 : decode b_P_writeBlock 0 = .ok (.iload_n 1, 1) := by decide +kernel
theorem d_P_writeBlock_1 : decode b_P_writeBlock 1 = .ok (.sipush 4096, 3) := by decide +kernel
theorem d_P_writeBlock_4 : decode b_P_writeBlock 4 = .ok (.imul, 1) := by decide +kernel
theorem d_P_writeBlock_5 : decode b_P_writeBlock 5 = .ok (.istore 4, 2) := by decide +kernel
theorem d_P_writeBlock_7 : decode b_P_writeBlock 7 = .ok (.aload_n 0, 1) := by decide +kernel
theorem d_P_writeBlock_8 : decode b_P_writeBlock 8 = .ok (.getfield 19, 3) := by decide +kernel
theorem d_P_writeBlock_11 : decode b_P_writeBlock 11 = .ok (.ifCond .ne 36, 3) := by decide +kernel
theorem d_P_writeBlock_14 : decode b_P_writeBlock 14 = .ok (.iload 4, 2) := by decide +kernel
theorem d_P_writeBlock_16 : decode b_P_writeBlock 16 = .ok (.ifCond .lt 31, 3) := by decide +kernel
theorem d_P_writeBlock_19 : decode b_P_writeBlock 19 = .ok (.iload 4, 2) := by decide +kernel
theorem d_P_writeBlock_21 : decode b_P_writeBlock 21 = .ok (.aload_n 0, 1) := by decide +kernel
theorem d_P_writeBlock_22 : decode b_P_writeBlock 22 = .ok (.getfield 9, 3) := by decide +kernel
theorem d_P_writeBlock_25 : decode b_P_writeBlock 25 = .ok (.arraylength, 1) := by decide +kernel
theorem d_P_writeBlock_26 : decode b_P_writeBlock 26 = .ok (.sipush 4096, 3) := by decide +kernel
theorem d_P_writeBlock_29 : decode b_P_writeBlock 29 = .ok (.isub, 1) := by decide +kernel
theorem d_P_writeBlock_30 : decode b_P_writeBlock 30 = .ok (.if_icmp .gt 17, 3) := by decide +kernel
theorem d_P_writeBlock_33 : decode b_P_writeBlock 33 = .ok (.iload_n 3, 1) := by decide +kernel
theorem d_P_writeBlock_34 : decode b_P_writeBlock 34 = .ok (.ifCond .lt 13, 3) := by decide +kernel
theorem d_P_writeBlock_37 : decode b_P_writeBlock 37 = .ok (.iload_n 3, 1) := by decide +kernel
theorem d_P_writeBlock_38 : decode b_P_writeBlock 38 = .ok (.aload_n 2, 1) := by decide +kernel
theorem d_P_writeBlock_39 : decode b_P_writeBlock 39 = .ok (.arraylength, 1) := by decide +kernel
theorem d_P_writeBlock_40 : decode b_P_writeBlock 40 = .ok (.sipush 4096, 3) := by decide +kernel
theorem d_P_writeBlock_43 : decode b_P_writeBlock 43 = .ok (.isub, 1) := by decide +kernel
theorem d_P_writeBlock_44 : decode b_P_writeBlock 44 = .ok (.if_icmp .le 5, 3) := by decide +kernel
theorem d_P_writeBlock_47 : decode b_P_writeBlock 47 = .ok (.iconst 0, 1) := by decide +kernel
theorem d_P_writeBlock_48 : decode b_P_writeBlock 48 = .ok (.ireturn, 1) := by decide +kernel
theorem d_P_writeBlock_49 : decode b_P_writeBlock 49 = .ok (.aload_n 2, 1) := by decide +kernel
theorem d_P_writeBlock_50 : decode b_P_writeBlock 50 = .ok (.iload_n 3, 1) := by decide +kernel
theorem d_P_writeBlock_51 : decode b_P_writeBlock 51 = .ok (.aload_n 0, 1) := by decide +kernel
theorem d_P_writeBlock_52 : decode b_P_writeBlock 52 = .ok (.getfield 9, 3) := by decide +kernel
theorem d_P_writeBlock_55 : decode b_P_writeBlock 55 = .ok (.iload 4, 2) := by decide +kernel
theorem d_P_writeBlock_57 : decode b_P_writeBlock 57 = .ok (.sipush 4096, 3) := by decide +kernel
theorem d_P_writeBlock_60 : decode b_P_writeBlock 60 = .ok (.invokestatic 23, 3) := by decide +kernel
theorem d_P_writeBlock_63 : decode b_P_writeBlock 63 = .ok (.aload_n 0, 1) := by decide +kernel
theorem d_P_writeBlock_64 : decode b_P_writeBlock 64 = .ok (.dup, 1) := by decide +kernel
theorem d_P_writeBlock_65 : decode b_P_writeBlock 65 = .ok (.getfield 29, 3) := by decide +kernel
theorem d_P_writeBlock_68 : decode b_P_writeBlock 68 = .ok (.iconst 1, 1) := by decide +kernel
theorem d_P_writeBlock_69 : decode b_P_writeBlock 69 = .ok (.iadd, 1) := by decide +kernel
theorem d_P_writeBlock_70 : decode b_P_writeBlock 70 = .ok (.putfield 29, 3) := by decide +kernel
theorem d_P_writeBlock_73 : decode b_P_writeBlock 73 = .ok (.aload_n 0, 1) := by decide +kernel
theorem d_P_writeBlock_74 : decode b_P_writeBlock 74 = .ok (.getfield 15, 3) := by decide +kernel
theorem d_P_writeBlock_77 : decode b_P_writeBlock 77 = .ok (.ifCond .le 13, 3) := by decide +kernel
theorem d_P_writeBlock_80 : decode b_P_writeBlock 80 = .ok (.aload_n 0, 1) := by decide +kernel
theorem d_P_writeBlock_81 : decode b_P_writeBlock 81 = .ok (.aload_n 0, 1) := by decide +kernel
theorem d_P_writeBlock_82 : decode b_P_writeBlock 82 = .ok (.getfield 15, 3) := by decide +kernel
theorem d_P_writeBlock_85 : decode b_P_writeBlock 85 = .ok (.iconst 1, 1) := by decide +kernel
theorem d_P_writeBlock_86 : decode b_P_writeBlock 86 = .ok (.isub, 1) := by decide +kernel
theorem d_P_writeBlock_87 : decode b_P_writeBlock 87 = .ok (.invokevirtual 32, 3) := by decide +kernel
theorem d_P_writeBlock_90 : decode b_P_writeBlock 90 = .ok (.aload_n 0, 1) := by decide +kernel
theorem d_P_writeBlock_91 : decode b_P_writeBlock 91 = .ok (.getfield 19, 3) := by decide +kernel
theorem d_P_writeBlock_94 : decode b_P_writeBlock 94 = .ok (.ifCond .ne 7, 3) := by decide +kernel
theorem d_P_writeBlock_97 : decode b_P_writeBlock 97 = .ok (.iconst 1, 1) := by decide +kernel
theorem d_P_writeBlock_98 : decode b_P_writeBlock 98 = .ok (.goto 4, 3) := by decide +kernel
theorem d_P_writeBlock_101 : decode b_P_writeBlock 101 = .ok (.iconst 0, 1) := by decide +kernel
theorem d_P_writeBlock_102 : decode b_P_writeBlock 102 = .ok (.ireturn, 1) := by decide +kernel
abbrev b_Tp_hasRoomFor : ByteArray := prog_4_method_2_code
def y_Tp_hasRoomFor : MethodName := ⟨R_Tp, "hasRoomFor", "(I)Z"⟩
abbrev w_Tp_hasRoomFor : List Cond := .code y_Tp_hasRoomFor b_Tp_hasRoomFor 2 (some .boolean) :: ew_T
theorem g_Tp_hasRoomFor : GoodIn ew_T w_Tp_hasRoomFor := ew_good ew_259
theorem d_Tp_hasRoomFor_0 : decode b_Tp_hasRoomFor 0 = .ok (.iload_n 1, 1) := by decide +kernel
theorem d_Tp_hasRoomFor_1 : decode b_Tp_hasRoomFor 1 = .ok (.aload_n 0, 1) := by decide +kernel
theorem d_Tp_hasRoomFor_2 : decode b_Tp_hasRoomFor 2 = .ok (.getfield 9, 3) := by decide +kernel
theorem d_Tp_hasRoomFor_5 : decode b_Tp_hasRoomFor 5 = .ok (.arraylength, 1) := by decide +kernel
theorem d_Tp_hasRoomFor_6 : decode b_Tp_hasRoomFor 6 = .ok (.aload_n 0, 1) := by decide +kernel
theorem d_Tp_hasRoomFor_7 : decode b_Tp_hasRoomFor 7 = .ok (.getfield 15, 3) := by decide +kernel
theorem d_Tp_hasRoomFor_10 : decode b_Tp_hasRoomFor 10 = .ok (.isub, 1) := by decide +kernel
theorem d_Tp_hasRoomFor_11 : decode b_Tp_hasRoomFor 11 = .ok (.if_icmp .gt 7, 3) := by decide +kernel
theorem d_Tp_hasRoomFor_14 : decode b_Tp_hasRoomFor 14 = .ok (.iconst 1, 1) := by decide +kernel
theorem d_Tp_hasRoomFor_15 : decode b_Tp_hasRoomFor 15 = .ok (.goto 4, 3) := by decide +kernel
theorem d_Tp_hasRoomFor_18 : decode b_Tp_hasRoomFor 18 = .ok (.iconst 0, 1) := by decide +kernel
theorem d_Tp_hasRoomFor_19 : decode b_Tp_hasRoomFor 19 = .ok (.ireturn, 1) := by decide +kernel
abbrev b_Tp_append : ByteArray := prog_4_method_3_code
def y_Tp_append : MethodName := ⟨R_Tp, "append", "(B)V"⟩
abbrev w_Tp_append : List Cond := .code y_Tp_append b_Tp_append 2 none :: ew_T
theorem g_Tp_append : GoodIn ew_T w_Tp_append := ew_good ew_279
theorem d_Tp_append_0 : decode b_Tp_append 0 = .ok (.aload_n 0, 1) := by decide +kernel
theorem d_Tp_append_1 : decode b_Tp_append 1 = .ok (.getfield 15, 3) := by decide +kernel
theorem d_Tp_append_4 : decode b_Tp_append 4 = .ok (.ifCond .lt 35, 3) := by decide +kernel
theorem d_Tp_append_7 : decode b_Tp_append 7 = .ok (.aload_n 0, 1) := by decide +kernel
theorem d_Tp_append_8 : decode b_Tp_append 8 = .ok (.getfield 15, 3) := by decide +kernel
theorem d_Tp_append_11 : decode b_Tp_append 11 = .ok (.aload_n 0, 1) := by decide +kernel
theorem d_Tp_append_12 : decode b_Tp_append 12 = .ok (.getfield 9, 3) := by decide +kernel
theorem d_Tp_append_15 : decode b_Tp_append 15 = .ok (.arraylength, 1) := by decide +kernel
theorem d_Tp_append_16 : decode b_Tp_append 16 = .ok (.if_icmp .ge 23, 3) := by decide +kernel
theorem d_Tp_append_19 : decode b_Tp_append 19 = .ok (.aload_n 0, 1) := by decide +kernel
theorem d_Tp_append_20 : decode b_Tp_append 20 = .ok (.getfield 9, 3) := by decide +kernel
theorem d_Tp_append_23 : decode b_Tp_append 23 = .ok (.aload_n 0, 1) := by decide +kernel
theorem d_Tp_append_24 : decode b_Tp_append 24 = .ok (.getfield 15, 3) := by decide +kernel
theorem d_Tp_append_27 : decode b_Tp_append 27 = .ok (.iload_n 1, 1) := by decide +kernel
theorem d_Tp_append_28 : decode b_Tp_append 28 = .ok (.bastore, 1) := by decide +kernel
theorem d_Tp_append_29 : decode b_Tp_append 29 = .ok (.aload_n 0, 1) := by decide +kernel
theorem d_Tp_append_30 : decode b_Tp_append 30 = .ok (.dup, 1) := by decide +kernel
theorem d_Tp_append_31 : decode b_Tp_append 31 = .ok (.getfield 15, 3) := by decide +kernel
theorem d_Tp_append_34 : decode b_Tp_append 34 = .ok (.iconst 1, 1) := by decide +kernel
theorem d_Tp_append_35 : decode b_Tp_append 35 = .ok (.iadd, 1) := by decide +kernel
theorem d_Tp_append_36 : decode b_Tp_append 36 = .ok (.putfield 15, 3) := by decide +kernel
theorem d_Tp_append_39 : decode b_Tp_append 39 = .ok (.return_, 1) := by decide +kernel
abbrev b_M_holds : ByteArray := prog_2_method_2_code
def y_M_holds : MethodName := ⟨R_M, "holds", "(I)Z"⟩
abbrev w_M_holds : List Cond := .code y_M_holds b_M_holds 2 (some .boolean) :: ew_T
theorem g_M_holds : GoodIn ew_T w_M_holds := ew_good ew_374
theorem d_M_holds_0 : decode b_M_holds 0 = .ok (.iload_n 1, 1) := by decide +kernel
theorem d_M_holds_1 : decode b_M_holds 1 = .ok (.ifCond .lt 22, 3) := by decide +kernel
theorem d_M_holds_4 : decode b_M_holds 4 = .ok (.iload_n 1, 1) := by decide +kernel
theorem d_M_holds_5 : decode b_M_holds 5 = .ok (.aload_n 0, 1) := by decide +kernel
theorem d_M_holds_6 : decode b_M_holds 6 = .ok (.getfield 24, 3) := by decide +kernel
theorem d_M_holds_9 : decode b_M_holds 9 = .ok (.if_icmp .ge 14, 3) := by decide +kernel
theorem d_M_holds_12 : decode b_M_holds 12 = .ok (.iload_n 1, 1) := by decide +kernel
theorem d_M_holds_13 : decode b_M_holds 13 = .ok (.sipush 200, 3) := by decide +kernel
theorem d_M_holds_16 : decode b_M_holds 16 = .ok (.if_icmp .ge 7, 3) := by decide +kernel
theorem d_M_holds_19 : decode b_M_holds 19 = .ok (.iconst 1, 1) := by decide +kernel
theorem d_M_holds_20 : decode b_M_holds 20 = .ok (.goto 4, 3) := by decide +kernel
theorem d_M_holds_23 : decode b_M_holds 23 = .ok (.iconst 0, 1) := by decide +kernel
theorem d_M_holds_24 : decode b_M_holds 24 = .ok (.ireturn, 1) := by decide +kernel
abbrev b_M_add : ByteArray := prog_2_method_4_code
def y_M_add : MethodName := ⟨R_M, "add", "(III)Z"⟩
abbrev w_M_add : List Cond := .code y_M_add b_M_add 4 (some .boolean) :: ew_T
theorem g_M_add : GoodIn ew_T w_M_add := ew_good ew_162
theorem d_M_add_0 : decode b_M_add 0 = .ok (.aload_n 0, 1) := by decide +kernel
theorem d_M_add_1 : decode b_M_add 1 = .ok (.getfield 24, 3) := by decide +kernel
theorem d_M_add_4 : decode b_M_add 4 = .ok (.ifCond .lt 13, 3) := by decide +kernel
theorem d_M_add_7 : decode b_M_add 7 = .ok (.aload_n 0, 1) := by decide +kernel
theorem d_M_add_8 : decode b_M_add 8 = .ok (.getfield 24, 3) := by decide +kernel
theorem d_M_add_11 : decode b_M_add 11 = .ok (.sipush 200, 3) := by decide +kernel
theorem d_M_add_14 : decode b_M_add 14 = .ok (.if_icmp .lt 5, 3) := by decide +kernel
theorem d_M_add_17 : decode b_M_add 17 = .ok (.iconst 0, 1) := by decide +kernel
theorem d_M_add_18 : decode b_M_add 18 = .ok (.ireturn, 1) := by decide +kernel
theorem d_M_add_19 : decode b_M_add 19 = .ok (.aload_n 0, 1) := by decide +kernel
theorem d_M_add_20 : decode b_M_add 20 = .ok (.getfield 11, 3) := by decide +kernel
theorem d_M_add_23 : decode b_M_add 23 = .ok (.aload_n 0, 1) := by decide +kernel
theorem d_M_add_24 : decode b_M_add 24 = .ok (.getfield 24, 3) := by decide +kernel
theorem d_M_add_27 : decode b_M_add 27 = .ok (.iload_n 1, 1) := by decide +kernel
theorem d_M_add_28 : decode b_M_add 28 = .ok (.iastore, 1) := by decide +kernel
theorem d_M_add_29 : decode b_M_add 29 = .ok (.aload_n 0, 1) := by decide +kernel
theorem d_M_add_30 : decode b_M_add 30 = .ok (.getfield 15, 3) := by decide +kernel
theorem d_M_add_33 : decode b_M_add 33 = .ok (.aload_n 0, 1) := by decide +kernel
theorem d_M_add_34 : decode b_M_add 34 = .ok (.getfield 24, 3) := by decide +kernel
theorem d_M_add_37 : decode b_M_add 37 = .ok (.iload_n 2, 1) := by decide +kernel
theorem d_M_add_38 : decode b_M_add 38 = .ok (.iastore, 1) := by decide +kernel
theorem d_M_add_39 : decode b_M_add 39 = .ok (.aload_n 0, 1) := by decide +kernel
theorem d_M_add_40 : decode b_M_add 40 = .ok (.getfield 18, 3) := by decide +kernel
theorem d_M_add_43 : decode b_M_add 43 = .ok (.aload_n 0, 1) := by decide +kernel
theorem d_M_add_44 : decode b_M_add 44 = .ok (.getfield 24, 3) := by decide +kernel
theorem d_M_add_47 : decode b_M_add 47 = .ok (.iload_n 3, 1) := by decide +kernel
theorem d_M_add_48 : decode b_M_add 48 = .ok (.iastore, 1) := by decide +kernel
theorem d_M_add_49 : decode b_M_add 49 = .ok (.aload_n 0, 1) := by decide +kernel
theorem d_M_add_50 : decode b_M_add 50 = .ok (.dup, 1) := by decide +kernel
theorem d_M_add_51 : decode b_M_add 51 = .ok (.getfield 24, 3) := by decide +kernel
theorem d_M_add_54 : decode b_M_add 54 = .ok (.iconst 1, 1) := by decide +kernel
theorem d_M_add_55 : decode b_M_add 55 = .ok (.iadd, 1) := by decide +kernel
theorem d_M_add_56 : decode b_M_add 56 = .ok (.putfield 24, 3) := by decide +kernel
theorem d_M_add_59 : decode b_M_add 59 = .ok (.iconst 1, 1) := by decide +kernel
theorem d_M_add_60 : decode b_M_add 60 = .ok (.ireturn, 1) := by decide +kernel
abbrev b_A_fill : ByteArray := prog_15_method_103_code
def y_A_fill : MethodName := ⟨R_A, "fill", "([II)V"⟩
abbrev w_A_fill : List Cond := .code y_A_fill b_A_fill 4 none :: ew_T
theorem g_A_fill : GoodIn ew_T w_A_fill := ew_good ew_149
theorem d_A_fill_0 : decode b_A_fill 0 = .ok (.iconst 0, 1) := by decide +kernel
theorem d_A_fill_1 : decode b_A_fill 1 = .ok (.istore_n 2, 1) := by decide +kernel
theorem d_A_fill_2 : decode b_A_fill 2 = .ok (.aload_n 0, 1) := by decide +kernel
theorem d_A_fill_3 : decode b_A_fill 3 = .ok (.arraylength, 1) := by decide +kernel
theorem d_A_fill_4 : decode b_A_fill 4 = .ok (.istore_n 3, 1) := by decide +kernel
theorem d_A_fill_5 : decode b_A_fill 5 = .ok (.iload_n 2, 1) := by decide +kernel
theorem d_A_fill_6 : decode b_A_fill 6 = .ok (.iload_n 3, 1) := by decide +kernel
theorem d_A_fill_7 : decode b_A_fill 7 = .ok (.if_icmp .ge 13, 3) := by decide +kernel
theorem d_A_fill_10 : decode b_A_fill 10 = .ok (.aload_n 0, 1) := by decide +kernel
theorem d_A_fill_11 : decode b_A_fill 11 = .ok (.iload_n 2, 1) := by decide +kernel
theorem d_A_fill_12 : decode b_A_fill 12 = .ok (.iload_n 1, 1) := by decide +kernel
theorem d_A_fill_13 : decode b_A_fill 13 = .ok (.iastore, 1) := by decide +kernel
theorem d_A_fill_14 : decode b_A_fill 14 = .ok (.iinc 2 1, 3) := by decide +kernel
theorem d_A_fill_17 : decode b_A_fill 17 = .ok (.goto (-12), 3) := by decide +kernel
theorem d_A_fill_20 : decode b_A_fill 20 = .ok (.return_, 1) := by decide +kernel
abbrev b_M_clear : ByteArray := prog_2_method_3_code
def y_M_clear : MethodName := ⟨R_M, "clear", "()V"⟩
abbrev w_M_clear : List Cond := .code y_M_clear b_M_clear 1 none :: ew_T
theorem g_M_clear : GoodIn ew_T w_M_clear := ew_good ew_146
theorem d_M_clear_0 : decode b_M_clear 0 = .ok (.aload_n 0, 1) := by decide +kernel
theorem d_M_clear_1 : decode b_M_clear 1 = .ok (.iconst 0, 1) := by decide +kernel
theorem d_M_clear_2 : decode b_M_clear 2 = .ok (.putfield 24, 3) := by decide +kernel
theorem d_M_clear_5 : decode b_M_clear 5 = .ok (.aload_n 0, 1) := by decide +kernel
theorem d_M_clear_6 : decode b_M_clear 6 = .ok (.iconst 0, 1) := by decide +kernel
theorem d_M_clear_7 : decode b_M_clear 7 = .ok (.putfield 28, 3) := by decide +kernel
theorem d_M_clear_10 : decode b_M_clear 10 = .ok (.aload_n 0, 1) := by decide +kernel
theorem d_M_clear_11 : decode b_M_clear 11 = .ok (.getfield 21, 3) := by decide +kernel
theorem d_M_clear_14 : decode b_M_clear 14 = .ok (.iconst 0, 1) := by decide +kernel
theorem d_M_clear_15 : decode b_M_clear 15 = .ok (.invokestatic 31, 3) := by decide +kernel
theorem d_M_clear_18 : decode b_M_clear 18 = .ok (.return_, 1) := by decide +kernel
abbrev b_M_takeNotes : ByteArray := prog_2_method_6_code
def y_M_takeNotes : MethodName := ⟨R_M, "takeNotes", "([I)V"⟩
abbrev w_M_takeNotes : List Cond := .code y_M_takeNotes b_M_takeNotes 3 none :: ew_T
theorem g_M_takeNotes : GoodIn ew_T w_M_takeNotes := ew_good ew_326
theorem d_M_takeNotes_0 : decode b_M_takeNotes 0 = .ok (.iconst 0, 1) := by decide +kernel
theorem d_M_takeNotes_1 : decode b_M_takeNotes 1 = .ok (.istore_n 2, 1) := by decide +kernel
theorem d_M_takeNotes_2 : decode b_M_takeNotes 2 = .ok (.iload_n 2, 1) := by decide +kernel
theorem d_M_takeNotes_3 : decode b_M_takeNotes 3 = .ok (.bipush 24, 2) := by decide +kernel
theorem d_M_takeNotes_5 : decode b_M_takeNotes 5 = .ok (.if_icmp .ge 24, 3) := by decide +kernel
theorem d_M_takeNotes_8 : decode b_M_takeNotes 8 = .ok (.iload_n 2, 1) := by decide +kernel
theorem d_M_takeNotes_9 : decode b_M_takeNotes 9 = .ok (.aload_n 1, 1) := by decide +kernel
theorem d_M_takeNotes_10 : decode b_M_takeNotes 10 = .ok (.arraylength, 1) := by decide +kernel
theorem d_M_takeNotes_11 : decode b_M_takeNotes 11 = .ok (.if_icmp .ge 18, 3) := by decide +kernel
theorem d_M_takeNotes_14 : decode b_M_takeNotes 14 = .ok (.aload_n 0, 1) := by decide +kernel
theorem d_M_takeNotes_15 : decode b_M_takeNotes 15 = .ok (.getfield 21, 3) := by decide +kernel
theorem d_M_takeNotes_18 : decode b_M_takeNotes 18 = .ok (.iload_n 2, 1) := by decide +kernel
theorem d_M_takeNotes_19 : decode b_M_takeNotes 19 = .ok (.aload_n 1, 1) := by decide +kernel
theorem d_M_takeNotes_20 : decode b_M_takeNotes 20 = .ok (.iload_n 2, 1) := by decide +kernel
theorem d_M_takeNotes_21 : decode b_M_takeNotes 21 = .ok (.iaload, 1) := by decide +kernel
theorem d_M_takeNotes_22 : decode b_M_takeNotes 22 = .ok (.iastore, 1) := by decide +kernel
theorem d_M_takeNotes_23 : decode b_M_takeNotes 23 = .ok (.iinc 2 1, 3) := by decide +kernel
theorem d_M_takeNotes_26 : decode b_M_takeNotes 26 = .ok (.goto (-24), 3) := by decide +kernel
theorem d_M_takeNotes_29 : decode b_M_takeNotes 29 = .ok (.return_, 1) := by decide +kernel
abbrev b_M_follow : ByteArray := prog_2_method_5_code
def y_M_follow : MethodName := ⟨R_M, "follow", "(LExtentDisk$Manifest;II)V"⟩
abbrev w_M_follow : List Cond := .code y_M_follow b_M_follow 6 none :: ew_T
theorem g_M_follow : GoodIn ew_T w_M_follow := ew_good ew_322
theorem d_M_follow_0 : decode b_M_follow 0 = .ok (.aload_n 0, 1) := by decide +kernel
theorem d_M_follow_1 : decode b_M_follow 1 = .ok (.invokevirtual 37, 3) := by decide +kernel
theorem d_M_follow_4 : decode b_M_follow 4 = .ok (.aload_n 0, 1) := by decide +kernel
theorem d_M_follow_5 : decode b_M_follow 5 = .ok (.aload_n 1, 1) := by decide +kernel
theorem d_M_follow_6 : decode b_M_follow 6 = .ok (.getfield 28, 3) := by decide +kernel
theorem d_M_follow_9 : decode b_M_follow 9 = .ok (.iconst 1, 1) := by decide +kernel
theorem d_M_follow_10 : decode b_M_follow 10 = .ok (.iadd, 1) := by decide +kernel
theorem d_M_follow_11 : decode b_M_follow 11 = .ok (.putfield 28, 3) := by decide +kernel
theorem d_M_follow_14 : decode b_M_follow 14 = .ok (.iconst 0, 1) := by decide +kernel
theorem d_M_follow_15 : decode b_M_follow 15 = .ok (.istore 4, 2) := by decide +kernel
theorem d_M_follow_17 : decode b_M_follow 17 = .ok (.iload 4, 2) := by decide +kernel
theorem d_M_follow_19 : decode b_M_follow 19 = .ok (.aload_n 1, 1) := by decide +kernel
theorem d_M_follow_20 : decode b_M_follow 20 = .ok (.getfield 24, 3) := by decide +kernel
theorem d_M_follow_23 : decode b_M_follow 23 = .ok (.if_icmp .ge 59, 3) := by decide +kernel
theorem d_M_follow_26 : decode b_M_follow 26 = .ok (.iload 4, 2) := by decide +kernel
theorem d_M_follow_28 : decode b_M_follow 28 = .ok (.sipush 200, 3) := by decide +kernel
theorem d_M_follow_31 : decode b_M_follow 31 = .ok (.if_icmp .ge 51, 3) := by decide +kernel
theorem d_M_follow_34 : decode b_M_follow 34 = .ok (.aload_n 1, 1) := by decide +kernel
theorem d_M_follow_35 : decode b_M_follow 35 = .ok (.getfield 11, 3) := by decide +kernel
theorem d_M_follow_38 : decode b_M_follow 38 = .ok (.iload 4, 2) := by decide +kernel
theorem d_M_follow_40 : decode b_M_follow 40 = .ok (.iaload, 1) := by decide +kernel
theorem d_M_follow_41 : decode b_M_follow 41 = .ok (.istore 5, 2) := by decide +kernel
theorem d_M_follow_43 : decode b_M_follow 43 = .ok (.iload 5, 2) := by decide +kernel
theorem d_M_follow_45 : decode b_M_follow 45 = .ok (.iload_n 2, 1) := by decide +kernel
theorem d_M_follow_46 : decode b_M_follow 46 = .ok (.if_icmp .lt 9, 3) := by decide +kernel
theorem d_M_follow_49 : decode b_M_follow 49 = .ok (.iload 5, 2) := by decide +kernel
theorem d_M_follow_51 : decode b_M_follow 51 = .ok (.iload_n 3, 1) := by decide +kernel
theorem d_M_follow_52 : decode b_M_follow 52 = .ok (.if_icmp .le 24, 3) := by decide +kernel
theorem d_M_follow_55 : decode b_M_follow 55 = .ok (.aload_n 0, 1) := by decide +kernel
theorem d_M_follow_56 : decode b_M_follow 56 = .ok (.iload 5, 2) := by decide +kernel
theorem d_M_follow_58 : decode b_M_follow 58 = .ok (.aload_n 1, 1) := by decide +kernel
theorem d_M_follow_59 : decode b_M_follow 59 = .ok (.getfield 15, 3) := by decide +kernel
theorem d_M_follow_62 : decode b_M_follow 62 = .ok (.iload 4, 2) := by decide +kernel
theorem d_M_follow_64 : decode b_M_follow 64 = .ok (.iaload, 1) := by decide +kernel
theorem d_M_follow_65 : decode b_M_follow 65 = .ok (.aload_n 1, 1) := by decide +kernel
theorem d_M_follow_66 : decode b_M_follow 66 = .ok (.getfield 18, 3) := by decide +kernel
theorem d_M_follow_69 : decode b_M_follow 69 = .ok (.iload 4, 2) := by decide +kernel
theorem d_M_follow_71 : decode b_M_follow 71 = .ok (.iaload, 1) := by decide +kernel
theorem d_M_follow_72 : decode b_M_follow 72 = .ok (.invokevirtual 40, 3) := by decide +kernel
theorem d_M_follow_75 : decode b_M_follow 75 = .ok (.pop, 1) := by decide +kernel
theorem d_M_follow_76 : decode b_M_follow 76 = .ok (.iinc 4 1, 3) := by decide +kernel
theorem d_M_follow_79 : decode b_M_follow 79 = .ok (.goto (-62), 3) := by decide +kernel
theorem d_M_follow_82 : decode b_M_follow 82 = .ok (.return_, 1) := by decide +kernel
abbrev b_D_blocksFor : ByteArray := prog_1_method_16_code
def y_D_blocksFor : MethodName := ⟨R_D, "blocksFor", "(I)I"⟩
abbrev w_D_blocksFor : List Cond := .code y_D_blocksFor b_D_blocksFor 1 (some .int) :: ew_T
theorem g_D_blocksFor : GoodIn ew_T w_D_blocksFor := ew_good ew_329
theorem d_D_blocksFor_0 : decode b_D_blocksFor 0 = .ok (.iload_n 0, 1) := by decide +kernel
theorem d_D_blocksFor_1 : decode b_D_blocksFor 1 = .ok (.sipush 4096, 3) := by decide +kernel
theorem d_D_blocksFor_4 : decode b_D_blocksFor 4 = .ok (.iadd, 1) := by decide +kernel
theorem d_D_blocksFor_5 : decode b_D_blocksFor 5 = .ok (.iconst 1, 1) := by decide +kernel
theorem d_D_blocksFor_6 : decode b_D_blocksFor 6 = .ok (.isub, 1) := by decide +kernel
theorem d_D_blocksFor_7 : decode b_D_blocksFor 7 = .ok (.sipush 4096, 3) := by decide +kernel
theorem d_D_blocksFor_10 : decode b_D_blocksFor 10 = .ok (.idiv, 1) := by decide +kernel
theorem d_D_blocksFor_11 : decode b_D_blocksFor 11 = .ok (.ireturn, 1) := by decide +kernel
abbrev b_M_countTenants : ByteArray := prog_2_method_7_code
def y_M_countTenants : MethodName := ⟨R_M, "countTenants", "([I)V"⟩
abbrev w_M_countTenants : List Cond := .code y_M_countTenants b_M_countTenants 5 none :: ew_T
theorem g_M_countTenants : GoodIn ew_T w_M_countTenants := ew_good ew_337
theorem d_M_countTenants_0 : decode b_M_countTenants 0 = .ok (.aload_n 1, 1) := by decide +kernel
theorem d_M_countTenants_1 : decode b_M_countTenants 1 = .ok (.iconst 0, 1) := by decide +kernel
theorem d_M_countTenants_2 : decode b_M_countTenants 2 = .ok (.invokestatic 31, 3) := by decide +kernel
theorem d_M_countTenants_5 : decode b_M_countTenants 5 = .ok (.iconst 0, 1) := by decide +kernel
theorem d_M_countTenants_6 : decode b_M_countTenants 6 = .ok (.istore_n 2, 1) := by decide +kernel
theorem d_M_countTenants_7 : decode b_M_countTenants 7 = .ok (.iload_n 2, 1) := by decide +kernel
theorem d_M_countTenants_8 : decode b_M_countTenants 8 = .ok (.aload_n 0, 1) := by decide +kernel
theorem d_M_countTenants_9 : decode b_M_countTenants 9 = .ok (.getfield 24, 3) := by decide +kernel
theorem d_M_countTenants_12 : decode b_M_countTenants 12 = .ok (.if_icmp .ge 72, 3) := by decide +kernel
theorem d_M_countTenants_15 : decode b_M_countTenants 15 = .ok (.iload_n 2, 1) := by decide +kernel
theorem d_M_countTenants_16 : decode b_M_countTenants 16 = .ok (.sipush 200, 3) := by decide +kernel
theorem d_M_countTenants_19 : decode b_M_countTenants 19 = .ok (.if_icmp .ge 65, 3) := by decide +kernel
theorem d_M_countTenants_22 : decode b_M_countTenants 22 = .ok (.aload_n 0, 1) := by decide +kernel
theorem d_M_countTenants_23 : decode b_M_countTenants 23 = .ok (.getfield 15, 3) := by decide +kernel
theorem d_M_countTenants_26 : decode b_M_countTenants 26 = .ok (.iload_n 2, 1) := by decide +kernel
theorem d_M_countTenants_27 : decode b_M_countTenants 27 = .ok (.iaload, 1) := by decide +kernel
theorem d_M_countTenants_28 : decode b_M_countTenants 28 = .ok (.aload_n 0, 1) := by decide +kernel
theorem d_M_countTenants_29 : decode b_M_countTenants 29 = .ok (.getfield 18, 3) := by decide +kernel
theorem d_M_countTenants_32 : decode b_M_countTenants 32 = .ok (.iload_n 2, 1) := by decide +kernel
theorem d_M_countTenants_33 : decode b_M_countTenants 33 = .ok (.iaload, 1) := by decide +kernel
theorem d_M_countTenants_34 : decode b_M_countTenants 34 = .ok (.invokestatic 44, 3) := by decide +kernel
theorem d_M_countTenants_37 : decode b_M_countTenants 37 = .ok (.iadd, 1) := by decide +kernel
theorem d_M_countTenants_38 : decode b_M_countTenants 38 = .ok (.istore_n 3, 1) := by decide +kernel
theorem d_M_countTenants_39 : decode b_M_countTenants 39 = .ok (.iconst 0, 1) := by decide +kernel
theorem d_M_countTenants_40 : decode b_M_countTenants 40 = .ok (.aload_n 0, 1) := by decide +kernel
theorem d_M_countTenants_41 : decode b_M_countTenants 41 = .ok (.getfield 15, 3) := by decide +kernel
theorem d_M_countTenants_44 : decode b_M_countTenants 44 = .ok (.iload_n 2, 1) := by decide +kernel
theorem d_M_countTenants_45 : decode b_M_countTenants 45 = .ok (.iaload, 1) := by decide +kernel
theorem d_M_countTenants_46 : decode b_M_countTenants 46 = .ok (.invokestatic 48, 3) := by decide +kernel
theorem d_M_countTenants_49 : decode b_M_countTenants 49 = .ok (.istore 4, 2) := by decide +kernel
theorem d_M_countTenants_51 : decode b_M_countTenants 51 = .ok (.iload 4, 2) := by decide +kernel
theorem d_M_countTenants_53 : decode b_M_countTenants 53 = .ok (.iload_n 3, 1) := by decide +kernel
theorem d_M_countTenants_54 : decode b_M_countTenants 54 = .ok (.if_icmp .ge 24, 3) := by decide +kernel
theorem d_M_countTenants_57 : decode b_M_countTenants 57 = .ok (.iload 4, 2) := by decide +kernel
theorem d_M_countTenants_59 : decode b_M_countTenants 59 = .ok (.aload_n 1, 1) := by decide +kernel
theorem d_M_countTenants_60 : decode b_M_countTenants 60 = .ok (.arraylength, 1) := by decide +kernel
theorem d_M_countTenants_61 : decode b_M_countTenants 61 = .ok (.if_icmp .ge 17, 3) := by decide +kernel
theorem d_M_countTenants_64 : decode b_M_countTenants 64 = .ok (.aload_n 1, 1) := by decide +kernel
theorem d_M_countTenants_65 : decode b_M_countTenants 65 = .ok (.iload 4, 2) := by decide +kernel
theorem d_M_countTenants_67 : decode b_M_countTenants 67 = .ok (.dup2, 1) := by decide +kernel
theorem d_M_countTenants_68 : decode b_M_countTenants 68 = .ok (.iaload, 1) := by decide +kernel
theorem d_M_countTenants_69 : decode b_M_countTenants 69 = .ok (.iconst 1, 1) := by decide +kernel
theorem d_M_countTenants_70 : decode b_M_countTenants 70 = .ok (.iadd, 1) := by decide +kernel
theorem d_M_countTenants_71 : decode b_M_countTenants 71 = .ok (.iastore, 1) := by decide +kernel
theorem d_M_countTenants_72 : decode b_M_countTenants 72 = .ok (.iinc 4 1, 3) := by decide +kernel
theorem d_M_countTenants_75 : decode b_M_countTenants 75 = .ok (.goto (-24), 3) := by decide +kernel
theorem d_M_countTenants_78 : decode b_M_countTenants 78 = .ok (.iinc 2 1, 3) := by decide +kernel
theorem d_M_countTenants_81 : decode b_M_countTenants 81 = .ok (.goto (-74), 3) := by decide +kernel
theorem d_M_countTenants_84 : decode b_M_countTenants 84 = .ok (.return_, 1) := by decide +kernel
abbrev b_M_storeInt : ByteArray := prog_2_method_10_code
def y_M_storeInt : MethodName := ⟨R_M, "storeInt", "([BII)V"⟩
abbrev w_M_storeInt : List Cond := .code y_M_storeInt b_M_storeInt 3 none :: ew_T
theorem g_M_storeInt : GoodIn ew_T w_M_storeInt := ew_good ew_363
theorem d_M_storeInt_0 : decode b_M_storeInt 0 = .ok (.iload_n 1, 1) := by decide +kernel
theorem d_M_storeInt_1 : decode b_M_storeInt 1 = .ok (.ifCond .lt 11, 3) := by decide +kernel
theorem d_M_storeInt_4 : decode b_M_storeInt 4 = .ok (.iload_n 1, 1) := by decide +kernel
theorem d_M_storeInt_5 : decode b_M_storeInt 5 = .ok (.aload_n 0, 1) := by decide +kernel
theorem d_M_storeInt_6 : decode b_M_storeInt 6 = .ok (.arraylength, 1) := by decide +kernel
theorem d_M_storeInt_7 : decode b_M_storeInt 7 = .ok (.iconst 4, 1) := by decide +kernel
theorem d_M_storeInt_8 : decode b_M_storeInt 8 = .ok (.isub, 1) := by decide +kernel
theorem d_M_storeInt_9 : decode b_M_storeInt 9 = .ok (.if_icmp .le 4, 3) := by decide +kernel
theorem d_M_storeInt_12 : decode b_M_storeInt 12 = .ok (.return_, 1) := by decide +kernel
theorem d_M_storeInt_13 : decode b_M_storeInt 13 = .ok (.aload_n 0, 1) := by decide +kernel
theorem d_M_storeInt_14 : decode b_M_storeInt 14 = .ok (.iload_n 1, 1) := by decide +kernel
theorem d_M_storeInt_15 : decode b_M_storeInt 15 = .ok (.iload_n 2, 1) := by decide +kernel
theorem d_M_storeInt_16 : decode b_M_storeInt 16 = .ok (.bipush 24, 2) := by decide +kernel
theorem d_M_storeInt_18 : decode b_M_storeInt 18 = .ok (.iushr, 1) := by decide +kernel
theorem d_M_storeInt_19 : decode b_M_storeInt 19 = .ok (.i2b, 1) := by decide +kernel
theorem d_M_storeInt_20 : decode b_M_storeInt 20 = .ok (.bastore, 1) := by decide +kernel
theorem d_M_storeInt_21 : decode b_M_storeInt 21 = .ok (.aload_n 0, 1) := by decide +kernel
theorem d_M_storeInt_22 : decode b_M_storeInt 22 = .ok (.iload_n 1, 1) := by decide +kernel
theorem d_M_storeInt_23 : decode b_M_storeInt 23 = .ok (.iconst 1, 1) := by decide +kernel
theorem d_M_storeInt_24 : decode b_M_storeInt 24 = .ok (.iadd, 1) := by decide +kernel
theorem d_M_storeInt_25 : decode b_M_storeInt 25 = .ok (.iload_n 2, 1) := by decide +kernel
theorem d_M_storeInt_26 : decode b_M_storeInt 26 = .ok (.bipush 16, 2) := by decide +kernel
theorem d_M_storeInt_28 : decode b_M_storeInt 28 = .ok (.iushr, 1) := by decide +kernel
theorem d_M_storeInt_29 : decode b_M_storeInt 29 = .ok (.i2b, 1) := by decide +kernel
theorem d_M_storeInt_30 : decode b_M_storeInt 30 = .ok (.bastore, 1) := by decide +kernel
theorem d_M_storeInt_31 : decode b_M_storeInt 31 = .ok (.aload_n 0, 1) := by decide +kernel
theorem d_M_storeInt_32 : decode b_M_storeInt 32 = .ok (.iload_n 1, 1) := by decide +kernel
theorem d_M_storeInt_33 : decode b_M_storeInt 33 = .ok (.iconst 2, 1) := by decide +kernel
theorem d_M_storeInt_34 : decode b_M_storeInt 34 = .ok (.iadd, 1) := by decide +kernel
theorem d_M_storeInt_35 : decode b_M_storeInt 35 = .ok (.iload_n 2, 1) := by decide +kernel
theorem d_M_storeInt_36 : decode b_M_storeInt 36 = .ok (.bipush 8, 2) := by decide +kernel
theorem d_M_storeInt_38 : decode b_M_storeInt 38 = .ok (.iushr, 1) := by decide +kernel
theorem d_M_storeInt_39 : decode b_M_storeInt 39 = .ok (.i2b, 1) := by decide +kernel
theorem d_M_storeInt_40 : decode b_M_storeInt 40 = .ok (.bastore, 1) := by decide +kernel
theorem d_M_storeInt_41 : decode b_M_storeInt 41 = .ok (.aload_n 0, 1) := by decide +kernel
theorem d_M_storeInt_42 : decode b_M_storeInt 42 = .ok (.iload_n 1, 1) := by decide +kernel
theorem d_M_storeInt_43 : decode b_M_storeInt 43 = .ok (.iconst 3, 1) := by decide +kernel
theorem d_M_storeInt_44 : decode b_M_storeInt 44 = .ok (.iadd, 1) := by decide +kernel
theorem d_M_storeInt_45 : decode b_M_storeInt 45 = .ok (.iload_n 2, 1) := by decide +kernel
theorem d_M_storeInt_46 : decode b_M_storeInt 46 = .ok (.i2b, 1) := by decide +kernel
theorem d_M_storeInt_47 : decode b_M_storeInt 47 = .ok (.bastore, 1) := by decide +kernel
theorem d_M_storeInt_48 : decode b_M_storeInt 48 = .ok (.return_, 1) := by decide +kernel
abbrev b_M_store : ByteArray := prog_2_method_8_code
def y_M_store : MethodName := ⟨R_M, "store", "([B)V"⟩
abbrev w_M_store : List Cond := .code y_M_store b_M_store 4 none :: ew_T
theorem g_M_store : GoodIn ew_T w_M_store := ew_good ew_360
theorem d_M_store_0 : decode b_M_store 0 = .ok (.aload_n 1, 1) := by decide +kernel
theorem d_M_store_1 : decode b_M_store 1 = .ok (.iconst 0, 1) := by decide +kernel
theorem d_M_store_2 : decode b_M_store 2 = .ok (.aload_n 0, 1) := by decide +kernel
theorem d_M_store_3 : decode b_M_store 3 = .ok (.getfield 28, 3) := by decide +kernel
theorem d_M_store_6 : decode b_M_store 6 = .ok (.invokestatic 54, 3) := by decide +kernel
theorem d_M_store_9 : decode b_M_store 9 = .ok (.aload_n 1, 1) := by decide +kernel
theorem d_M_store_10 : decode b_M_store 10 = .ok (.iconst 4, 1) := by decide +kernel
theorem d_M_store_11 : decode b_M_store 11 = .ok (.aload_n 0, 1) := by decide +kernel
theorem d_M_store_12 : decode b_M_store 12 = .ok (.getfield 24, 3) := by decide +kernel
theorem d_M_store_15 : decode b_M_store 15 = .ok (.invokestatic 54, 3) := by decide +kernel
theorem d_M_store_18 : decode b_M_store 18 = .ok (.iconst 0, 1) := by decide +kernel
theorem d_M_store_19 : decode b_M_store 19 = .ok (.istore_n 2, 1) := by decide +kernel
theorem d_M_store_20 : decode b_M_store 20 = .ok (.iload_n 2, 1) := by decide +kernel
theorem d_M_store_21 : decode b_M_store 21 = .ok (.bipush 24, 2) := by decide +kernel
theorem d_M_store_23 : decode b_M_store 23 = .ok (.if_icmp .ge 25, 3) := by decide +kernel
theorem d_M_store_26 : decode b_M_store 26 = .ok (.aload_n 1, 1) := by decide +kernel
theorem d_M_store_27 : decode b_M_store 27 = .ok (.bipush 8, 2) := by decide +kernel
theorem d_M_store_29 : decode b_M_store 29 = .ok (.iconst 4, 1) := by decide +kernel
theorem d_M_store_30 : decode b_M_store 30 = .ok (.iload_n 2, 1) := by decide +kernel
theorem d_M_store_31 : decode b_M_store 31 = .ok (.imul, 1) := by decide +kernel
theorem d_M_store_32 : decode b_M_store 32 = .ok (.iadd, 1) := by decide +kernel
theorem d_M_store_33 : decode b_M_store 33 = .ok (.aload_n 0, 1) := by decide +kernel
theorem d_M_store_34 : decode b_M_store 34 = .ok (.getfield 21, 3) := by decide +kernel
theorem d_M_store_37 : decode b_M_store 37 = .ok (.iload_n 2, 1) := by decide +kernel
theorem d_M_store_38 : decode b_M_store 38 = .ok (.iaload, 1) := by decide +kernel
theorem d_M_store_39 : decode b_M_store 39 = .ok (.invokestatic 54, 3) := by decide +kernel
theorem d_M_store_42 : decode b_M_store 42 = .ok (.iinc 2 1, 3) := by decide +kernel
theorem d_M_store_45 : decode b_M_store 45 = .ok (.goto (-25), 3) := by decide +kernel
theorem d_M_store_48 : decode b_M_store 48 = .ok (.iconst 0, 1) := by decide +kernel
theorem d_M_store_49 : decode b_M_store 49 = .ok (.istore_n 2, 1) := by decide +kernel
theorem d_M_store_50 : decode b_M_store 50 = .ok (.iload_n 2, 1) := by decide +kernel
theorem d_M_store_51 : decode b_M_store 51 = .ok (.aload_n 0, 1) := by decide +kernel
theorem d_M_store_52 : decode b_M_store 52 = .ok (.getfield 24, 3) := by decide +kernel
theorem d_M_store_55 : decode b_M_store 55 = .ok (.if_icmp .ge 62, 3) := by decide +kernel
theorem d_M_store_58 : decode b_M_store 58 = .ok (.iload_n 2, 1) := by decide +kernel
theorem d_M_store_59 : decode b_M_store 59 = .ok (.sipush 200, 3) := by decide +kernel
theorem d_M_store_62 : decode b_M_store 62 = .ok (.if_icmp .ge 55, 3) := by decide +kernel
theorem d_M_store_65 : decode b_M_store 65 = .ok (.bipush 104, 2) := by decide +kernel
theorem d_M_store_67 : decode b_M_store 67 = .ok (.bipush 12, 2) := by decide +kernel
theorem d_M_store_69 : decode b_M_store 69 = .ok (.iload_n 2, 1) := by decide +kernel
theorem d_M_store_70 : decode b_M_store 70 = .ok (.imul, 1) := by decide +kernel
theorem d_M_store_71 : decode b_M_store 71 = .ok (.iadd, 1) := by decide +kernel
theorem d_M_store_72 : decode b_M_store 72 = .ok (.istore_n 3, 1) := by decide +kernel
theorem d_M_store_73 : decode b_M_store 73 = .ok (.aload_n 1, 1) := by decide +kernel
theorem d_M_store_74 : decode b_M_store 74 = .ok (.iload_n 3, 1) := by decide +kernel
theorem d_M_store_75 : decode b_M_store 75 = .ok (.aload_n 0, 1) := by decide +kernel
theorem d_M_store_76 : decode b_M_store 76 = .ok (.getfield 11, 3) := by decide +kernel
theorem d_M_store_79 : decode b_M_store 79 = .ok (.iload_n 2, 1) := by decide +kernel
theorem d_M_store_80 : decode b_M_store 80 = .ok (.iaload, 1) := by decide +kernel
theorem d_M_store_81 : decode b_M_store 81 = .ok (.invokestatic 54, 3) := by decide +kernel
theorem d_M_store_84 : decode b_M_store 84 = .ok (.aload_n 1, 1) := by decide +kernel
theorem d_M_store_85 : decode b_M_store 85 = .ok (.iload_n 3, 1) := by decide +kernel
theorem d_M_store_86 : decode b_M_store 86 = .ok (.iconst 4, 1) := by decide +kernel
theorem d_M_store_87 : decode b_M_store 87 = .ok (.iadd, 1) := by decide +kernel
theorem d_M_store_88 : decode b_M_store 88 = .ok (.aload_n 0, 1) := by decide +kernel
theorem d_M_store_89 : decode b_M_store 89 = .ok (.getfield 15, 3) := by decide +kernel
theorem d_M_store_92 : decode b_M_store 92 = .ok (.iload_n 2, 1) := by decide +kernel
theorem d_M_store_93 : decode b_M_store 93 = .ok (.iaload, 1) := by decide +kernel
theorem d_M_store_94 : decode b_M_store 94 = .ok (.invokestatic 54, 3) := by decide +kernel
theorem d_M_store_97 : decode b_M_store 97 = .ok (.aload_n 1, 1) := by decide +kernel
theorem d_M_store_98 : decode b_M_store 98 = .ok (.iload_n 3, 1) := by decide +kernel
theorem d_M_store_99 : decode b_M_store 99 = .ok (.bipush 8, 2) := by decide +kernel
theorem d_M_store_101 : decode b_M_store 101 = .ok (.iadd, 1) := by decide +kernel
theorem d_M_store_102 : decode b_M_store 102 = .ok (.aload_n 0, 1) := by decide +kernel
theorem d_M_store_103 : decode b_M_store 103 = .ok (.getfield 18, 3) := by decide +kernel
theorem d_M_store_106 : decode b_M_store 106 = .ok (.iload_n 2, 1) := by decide +kernel
theorem d_M_store_107 : decode b_M_store 107 = .ok (.iaload, 1) := by decide +kernel
theorem d_M_store_108 : decode b_M_store 108 = .ok (.invokestatic 54, 3) := by decide +kernel
theorem d_M_store_111 : decode b_M_store 111 = .ok (.iinc 2 1, 3) := by decide +kernel
theorem d_M_store_114 : decode b_M_store 114 = .ok (.goto (-64), 3) := by decide +kernel
theorem d_M_store_117 : decode b_M_store 117 = .ok (.return_, 1) := by decide +kernel
abbrev b_M_load : ByteArray := prog_2_method_9_code
def y_M_load : MethodName := ⟨R_M, "load", "(LExtentDisk$Platter;I)V"⟩
abbrev w_M_load : List Cond := .code y_M_load b_M_load 7 none :: ew_T
theorem g_M_load : GoodIn ew_T w_M_load := ew_good ew_142
theorem d_M_load_0 : decode b_M_load 0 = .ok (.iload_n 2, 1) := by decide +kernel
theorem d_M_load_1 : decode b_M_load 1 = .ok (.sipush 4096, 3) := by decide +kernel
theorem d_M_load_4 : decode b_M_load 4 = .ok (.imul, 1) := by decide +kernel
theorem d_M_load_5 : decode b_M_load 5 = .ok (.istore_n 3, 1) := by decide +kernel
theorem d_M_load_6 : decode b_M_load 6 = .ok (.aload_n 0, 1) := by decide +kernel
theorem d_M_load_7 : decode b_M_load 7 = .ok (.invokevirtual 37, 3) := by decide +kernel
theorem d_M_load_10 : decode b_M_load 10 = .ok (.aload_n 0, 1) := by decide +kernel
theorem d_M_load_11 : decode b_M_load 11 = .ok (.aload_n 1, 1) := by decide +kernel
theorem d_M_load_12 : decode b_M_load 12 = .ok (.iload_n 3, 1) := by decide +kernel
theorem d_M_load_13 : decode b_M_load 13 = .ok (.iconst 0, 1) := by decide +kernel
theorem d_M_load_14 : decode b_M_load 14 = .ok (.iadd, 1) := by decide +kernel
theorem d_M_load_15 : decode b_M_load 15 = .ok (.invokevirtual 58, 3) := by decide +kernel
theorem d_M_load_18 : decode b_M_load 18 = .ok (.putfield 28, 3) := by decide +kernel
theorem d_M_load_21 : decode b_M_load 21 = .ok (.iconst 0, 1) := by decide +kernel
theorem d_M_load_22 : decode b_M_load 22 = .ok (.istore 4, 2) := by decide +kernel
theorem d_M_load_24 : decode b_M_load 24 = .ok (.iload 4, 2) := by decide +kernel
theorem d_M_load_26 : decode b_M_load 26 = .ok (.bipush 24, 2) := by decide +kernel
theorem d_M_load_28 : decode b_M_load 28 = .ok (.if_icmp .ge 29, 3) := by decide +kernel
theorem d_M_load_31 : decode b_M_load 31 = .ok (.aload_n 0, 1) := by decide +kernel
theorem d_M_load_32 : decode b_M_load 32 = .ok (.getfield 21, 3) := by decide +kernel
theorem d_M_load_35 : decode b_M_load 35 = .ok (.iload 4, 2) := by decide +kernel
theorem d_M_load_37 : decode b_M_load 37 = .ok (.aload_n 1, 1) := by decide +kernel
theorem d_M_load_38 : decode b_M_load 38 = .ok (.iload_n 3, 1) := by decide +kernel
theorem d_M_load_39 : decode b_M_load 39 = .ok (.bipush 8, 2) := by decide +kernel
theorem d_M_load_41 : decode b_M_load 41 = .ok (.iadd, 1) := by decide +kernel
theorem d_M_load_42 : decode b_M_load 42 = .ok (.iconst 4, 1) := by decide +kernel
theorem d_M_load_43 : decode b_M_load 43 = .ok (.iload 4, 2) := by decide +kernel
theorem d_M_load_45 : decode b_M_load 45 = .ok (.imul, 1) := by decide +kernel
theorem d_M_load_46 : decode b_M_load 46 = .ok (.iadd, 1) := by decide +kernel
theorem d_M_load_47 : decode b_M_load 47 = .ok (.invokevirtual 58, 3) := by decide +kernel
theorem d_M_load_50 : decode b_M_load 50 = .ok (.iastore, 1) := by decide +kernel
theorem d_M_load_51 : decode b_M_load 51 = .ok (.iinc 4 1, 3) := by decide +kernel
theorem d_M_load_54 : decode b_M_load 54 = .ok (.goto (-30), 3) := by decide +kernel
theorem d_M_load_57 : decode b_M_load 57 = .ok (.sipush 200, 3) := by decide +kernel
theorem d_M_load_60 : decode b_M_load 60 = .ok (.aload_n 1, 1) := by decide +kernel
theorem d_M_load_61 : decode b_M_load 61 = .ok (.iload_n 3, 1) := by decide +kernel
theorem d_M_load_62 : decode b_M_load 62 = .ok (.iconst 4, 1) := by decide +kernel
theorem d_M_load_63 : decode b_M_load 63 = .ok (.iadd, 1) := by decide +kernel
theorem d_M_load_64 : decode b_M_load 64 = .ok (.invokevirtual 58, 3) := by decide +kernel
theorem d_M_load_67 : decode b_M_load 67 = .ok (.invokestatic 63, 3) := by decide +kernel
theorem d_M_load_70 : decode b_M_load 70 = .ok (.istore 4, 2) := by decide +kernel
theorem d_M_load_72 : decode b_M_load 72 = .ok (.iconst 0, 1) := by decide +kernel
theorem d_M_load_73 : decode b_M_load 73 = .ok (.istore 5, 2) := by decide +kernel
theorem d_M_load_75 : decode b_M_load 75 = .ok (.iload 5, 2) := by decide +kernel
theorem d_M_load_77 : decode b_M_load 77 = .ok (.iload 4, 2) := by decide +kernel
theorem d_M_load_79 : decode b_M_load 79 = .ok (.if_icmp .ge 49, 3) := by decide +kernel
theorem d_M_load_82 : decode b_M_load 82 = .ok (.iload_n 3, 1) := by decide +kernel
theorem d_M_load_83 : decode b_M_load 83 = .ok (.bipush 104, 2) := by decide +kernel
theorem d_M_load_85 : decode b_M_load 85 = .ok (.iadd, 1) := by decide +kernel
theorem d_M_load_86 : decode b_M_load 86 = .ok (.bipush 12, 2) := by decide +kernel
theorem d_M_load_88 : decode b_M_load 88 = .ok (.iload 5, 2) := by decide +kernel
theorem d_M_load_90 : decode b_M_load 90 = .ok (.imul, 1) := by decide +kernel
theorem d_M_load_91 : decode b_M_load 91 = .ok (.iadd, 1) := by decide +kernel
theorem d_M_load_92 : decode b_M_load 92 = .ok (.istore 6, 2) := by decide +kernel
theorem d_M_load_94 : decode b_M_load 94 = .ok (.aload_n 0, 1) := by decide +kernel
theorem d_M_load_95 : decode b_M_load 95 = .ok (.aload_n 1, 1) := by decide +kernel
theorem d_M_load_96 : decode b_M_load 96 = .ok (.iload 6, 2) := by decide +kernel
theorem d_M_load_98 : decode b_M_load 98 = .ok (.invokevirtual 58, 3) := by decide +kernel
theorem d_M_load_101 : decode b_M_load 101 = .ok (.aload_n 1, 1) := by decide +kernel
theorem d_M_load_102 : decode b_M_load 102 = .ok (.iload 6, 2) := by decide +kernel
theorem d_M_load_104 : decode b_M_load 104 = .ok (.iconst 4, 1) := by decide +kernel
theorem d_M_load_105 : decode b_M_load 105 = .ok (.iadd, 1) := by decide +kernel
theorem d_M_load_106 : decode b_M_load 106 = .ok (.invokevirtual 58, 3) := by decide +kernel
theorem d_M_load_109 : decode b_M_load 109 = .ok (.aload_n 1, 1) := by decide +kernel
theorem d_M_load_110 : decode b_M_load 110 = .ok (.iload 6, 2) := by decide +kernel
theorem d_M_load_112 : decode b_M_load 112 = .ok (.bipush 8, 2) := by decide +kernel
theorem d_M_load_114 : decode b_M_load 114 = .ok (.iadd, 1) := by decide +kernel
theorem d_M_load_115 : decode b_M_load 115 = .ok (.invokevirtual 58, 3) := by decide +kernel
theorem d_M_load_118 : decode b_M_load 118 = .ok (.invokevirtual 40, 3) := by decide +kernel
theorem d_M_load_121 : decode b_M_load 121 = .ok (.pop, 1) := by decide +kernel
theorem d_M_load_122 : decode b_M_load 122 = .ok (.iinc 5 1, 3) := by decide +kernel
theorem d_M_load_125 : decode b_M_load 125 = .ok (.goto (-50), 3) := by decide +kernel
theorem d_M_load_128 : decode b_M_load 128 = .ok (.return_, 1) := by decide +kernel
abbrev b_D_freeBlocks : ByteArray := prog_1_method_17_code
def y_D_freeBlocks : MethodName := ⟨R_D, "freeBlocks", "()I"⟩
abbrev w_D_freeBlocks : List Cond := .code y_D_freeBlocks b_D_freeBlocks 3 (some .int) :: ew_T
theorem g_D_freeBlocks : GoodIn ew_T w_D_freeBlocks := ew_good ew_404
theorem d_D_freeBlocks_0 : decode b_D_freeBlocks 0 = .ok (.aload_n 0, 1) := by decide +kernel
theorem d_D_freeBlocks_1 : decode b_D_freeBlocks 1 = .ok (.getfield 48, 3) := by decide +kernel
theorem d_D_freeBlocks_4 : decode b_D_freeBlocks 4 = .ok (.aload_n 0, 1) := by decide +kernel
theorem d_D_freeBlocks_5 : decode b_D_freeBlocks 5 = .ok (.getfield 42, 3) := by decide +kernel
theorem d_D_freeBlocks_8 : decode b_D_freeBlocks 8 = .ok (.invokevirtual 170, 3) := by decide +kernel
theorem d_D_freeBlocks_11 : decode b_D_freeBlocks 11 = .ok (.iconst 0, 1) := by decide +kernel
theorem d_D_freeBlocks_12 : decode b_D_freeBlocks 12 = .ok (.istore_n 1, 1) := by decide +kernel
theorem d_D_freeBlocks_13 : decode b_D_freeBlocks 13 = .ok (.iconst 2, 1) := by decide +kernel
theorem d_D_freeBlocks_14 : decode b_D_freeBlocks 14 = .ok (.istore_n 2, 1) := by decide +kernel
theorem d_D_freeBlocks_15 : decode b_D_freeBlocks 15 = .ok (.iload_n 2, 1) := by decide +kernel
theorem d_D_freeBlocks_16 : decode b_D_freeBlocks 16 = .ok (.aload_n 0, 1) := by decide +kernel
theorem d_D_freeBlocks_17 : decode b_D_freeBlocks 17 = .ok (.getfield 42, 3) := by decide +kernel
theorem d_D_freeBlocks_20 : decode b_D_freeBlocks 20 = .ok (.arraylength, 1) := by decide +kernel
theorem d_D_freeBlocks_21 : decode b_D_freeBlocks 21 = .ok (.if_icmp .ge 21, 3) := by decide +kernel
theorem d_D_freeBlocks_24 : decode b_D_freeBlocks 24 = .ok (.aload_n 0, 1) := by decide +kernel
theorem d_D_freeBlocks_25 : decode b_D_freeBlocks 25 = .ok (.getfield 42, 3) := by decide +kernel
theorem d_D_freeBlocks_28 : decode b_D_freeBlocks 28 = .ok (.iload_n 2, 1) := by decide +kernel
theorem d_D_freeBlocks_29 : decode b_D_freeBlocks 29 = .ok (.iaload, 1) := by decide +kernel
theorem d_D_freeBlocks_30 : decode b_D_freeBlocks 30 = .ok (.ifCond .ne 6, 3) := by decide +kernel
theorem d_D_freeBlocks_33 : decode b_D_freeBlocks 33 = .ok (.iinc 1 1, 3) := by decide +kernel
theorem d_D_freeBlocks_36 : decode b_D_freeBlocks 36 = .ok (.iinc 2 1, 3) := by decide +kernel
theorem d_D_freeBlocks_39 : decode b_D_freeBlocks 39 = .ok (.goto (-24), 3) := by decide +kernel
theorem d_D_freeBlocks_42 : decode b_D_freeBlocks 42 = .ok (.iload_n 1, 1) := by decide +kernel
theorem d_D_freeBlocks_43 : decode b_D_freeBlocks 43 = .ok (.ireturn, 1) := by decide +kernel
abbrev b_D_firstFreeRow : ByteArray := prog_1_method_18_code
def y_D_firstFreeRow : MethodName := ⟨R_D, "firstFreeRow", "(I)I"⟩
abbrev w_D_firstFreeRow : List Cond := .code y_D_firstFreeRow b_D_firstFreeRow 4 (some .int) :: ew_T
theorem g_D_firstFreeRow : GoodIn ew_T w_D_firstFreeRow := ew_good ew_333
theorem d_D_firstFreeRow_0 : decode b_D_firstFreeRow 0 = .ok (.aload_n 0, 1) := by decide +kernel
theorem d_D_firstFreeRow_1 : decode b_D_firstFreeRow 1 = .ok (.getfield 48, 3) := by decide +kernel
theorem d_D_firstFreeRow_4 : decode b_D_firstFreeRow 4 = .ok (.aload_n 0, 1) := by decide +kernel
theorem d_D_firstFreeRow_5 : decode b_D_firstFreeRow 5 = .ok (.getfield 42, 3) := by decide +kernel
theorem d_D_firstFreeRow_8 : decode b_D_firstFreeRow 8 = .ok (.invokevirtual 170, 3) := by decide +kernel
theorem d_D_firstFreeRow_11 : decode b_D_firstFreeRow 11 = .ok (.iconst 0, 1) := by decide +kernel
theorem d_D_firstFreeRow_12 : decode b_D_firstFreeRow 12 = .ok (.istore_n 2, 1) := by decide +kernel
theorem d_D_firstFreeRow_13 : decode b_D_firstFreeRow 13 = .ok (.iconst 2, 1) := by decide +kernel
theorem d_D_firstFreeRow_14 : decode b_D_firstFreeRow 14 = .ok (.istore_n 3, 1) := by decide +kernel
theorem d_D_firstFreeRow_15 : decode b_D_firstFreeRow 15 = .ok (.iload_n 3, 1) := by decide +kernel
theorem d_D_firstFreeRow_16 : decode b_D_firstFreeRow 16 = .ok (.aload_n 0, 1) := by decide +kernel
theorem d_D_firstFreeRow_17 : decode b_D_firstFreeRow 17 = .ok (.getfield 42, 3) := by decide +kernel
theorem d_D_firstFreeRow_20 : decode b_D_firstFreeRow 20 = .ok (.arraylength, 1) := by decide +kernel
theorem d_D_firstFreeRow_21 : decode b_D_firstFreeRow 21 = .ok (.if_icmp .ge 37, 3) := by decide +kernel
theorem d_D_firstFreeRow_24 : decode b_D_firstFreeRow 24 = .ok (.aload_n 0, 1) := by decide +kernel
theorem d_D_firstFreeRow_25 : decode b_D_firstFreeRow 25 = .ok (.getfield 42, 3) := by decide +kernel
theorem d_D_firstFreeRow_28 : decode b_D_firstFreeRow 28 = .ok (.iload_n 3, 1) := by decide +kernel
theorem d_D_firstFreeRow_29 : decode b_D_firstFreeRow 29 = .ok (.iaload, 1) := by decide +kernel
theorem d_D_firstFreeRow_30 : decode b_D_firstFreeRow 30 = .ok (.ifCond .ne 9, 3) := by decide +kernel
theorem d_D_firstFreeRow_33 : decode b_D_firstFreeRow 33 = .ok (.iload_n 2, 1) := by decide +kernel
theorem d_D_firstFreeRow_34 : decode b_D_firstFreeRow 34 = .ok (.iconst 1, 1) := by decide +kernel
theorem d_D_firstFreeRow_35 : decode b_D_firstFreeRow 35 = .ok (.iadd, 1) := by decide +kernel
theorem d_D_firstFreeRow_36 : decode b_D_firstFreeRow 36 = .ok (.goto 4, 3) := by decide +kernel
theorem d_D_firstFreeRow_39 : decode b_D_firstFreeRow 39 = .ok (.iconst 0, 1) := by decide +kernel
theorem d_D_firstFreeRow_40 : decode b_D_firstFreeRow 40 = .ok (.istore_n 2, 1) := by decide +kernel
theorem d_D_firstFreeRow_41 : decode b_D_firstFreeRow 41 = .ok (.iload_n 2, 1) := by decide +kernel
theorem d_D_firstFreeRow_42 : decode b_D_firstFreeRow 42 = .ok (.iload_n 1, 1) := by decide +kernel
theorem d_D_firstFreeRow_43 : decode b_D_firstFreeRow 43 = .ok (.if_icmp .ne 9, 3) := by decide +kernel
theorem d_D_firstFreeRow_46 : decode b_D_firstFreeRow 46 = .ok (.iload_n 3, 1) := by decide +kernel
theorem d_D_firstFreeRow_47 : decode b_D_firstFreeRow 47 = .ok (.iload_n 1, 1) := by decide +kernel
theorem d_D_firstFreeRow_48 : decode b_D_firstFreeRow 48 = .ok (.isub, 1) := by decide +kernel
theorem d_D_firstFreeRow_49 : decode b_D_firstFreeRow 49 = .ok (.iconst 1, 1) := by decide +kernel
theorem d_D_firstFreeRow_50 : decode b_D_firstFreeRow 50 = .ok (.iadd, 1) := by decide +kernel
theorem d_D_firstFreeRow_51 : decode b_D_firstFreeRow 51 = .ok (.ireturn, 1) := by decide +kernel
theorem d_D_firstFreeRow_52 : decode b_D_firstFreeRow 52 = .ok (.iinc 3 1, 3) := by decide +kernel
theorem d_D_firstFreeRow_55 : decode b_D_firstFreeRow 55 = .ok (.goto (-40), 3) := by decide +kernel
theorem d_D_firstFreeRow_58 : decode b_D_firstFreeRow 58 = .ok (.iconst (-1), 1) := by decide +kernel
theorem d_D_firstFreeRow_59 : decode b_D_firstFreeRow 59 = .ok (.ireturn, 1) := by decide +kernel
abbrev b_D_makeNextCount : ByteArray := prog_1_method_20_code
def y_D_makeNextCount : MethodName := ⟨R_D, "makeNextCount", "()V"⟩
abbrev w_D_makeNextCount : List Cond := .code y_D_makeNextCount b_D_makeNextCount 2 none :: ew_T
theorem g_D_makeNextCount : GoodIn ew_T w_D_makeNextCount := ew_good ew_166
theorem d_D_makeNextCount_0 : decode b_D_makeNextCount 0 = .ok (.aload_n 0, 1) := by decide +kernel
theorem d_D_makeNextCount_1 : decode b_D_makeNextCount 1 = .ok (.getfield 48, 3) := by decide +kernel
theorem d_D_makeNextCount_4 : decode b_D_makeNextCount 4 = .ok (.astore_n 1, 1) := by decide +kernel
theorem d_D_makeNextCount_5 : decode b_D_makeNextCount 5 = .ok (.aload_n 0, 1) := by decide +kernel
theorem d_D_makeNextCount_6 : decode b_D_makeNextCount 6 = .ok (.aload_n 0, 1) := by decide +kernel
theorem d_D_makeNextCount_7 : decode b_D_makeNextCount 7 = .ok (.getfield 52, 3) := by decide +kernel
theorem d_D_makeNextCount_10 : decode b_D_makeNextCount 10 = .ok (.putfield 48, 3) := by decide +kernel
theorem d_D_makeNextCount_13 : decode b_D_makeNextCount 13 = .ok (.aload_n 0, 1) := by decide +kernel
theorem d_D_makeNextCount_14 : decode b_D_makeNextCount 14 = .ok (.aload_n 1, 1) := by decide +kernel
theorem d_D_makeNextCount_15 : decode b_D_makeNextCount 15 = .ok (.putfield 52, 3) := by decide +kernel
theorem d_D_makeNextCount_18 : decode b_D_makeNextCount 18 = .ok (.return_, 1) := by decide +kernel
abbrev b_D_forget : ByteArray := prog_1_method_21_code
def y_D_forget : MethodName := ⟨R_D, "forget", "()V"⟩
abbrev w_D_forget : List Cond := .code y_D_forget b_D_forget 1 none :: ew_T
theorem g_D_forget : GoodIn ew_T w_D_forget := ew_good ew_354
theorem d_D_forget_0 : decode b_D_forget 0 = .ok (.aload_n 0, 1) := by decide +kernel
theorem d_D_forget_1 : decode b_D_forget 1 = .ok (.getfield 30, 3) := by decide +kernel
theorem d_D_forget_4 : decode b_D_forget 4 = .ok (.iconst 0, 1) := by decide +kernel
theorem d_D_forget_5 : decode b_D_forget 5 = .ok (.putfield 79, 3) := by decide +kernel
theorem d_D_forget_8 : decode b_D_forget 8 = .ok (.aload_n 0, 1) := by decide +kernel
theorem d_D_forget_9 : decode b_D_forget 9 = .ok (.getfield 48, 3) := by decide +kernel
theorem d_D_forget_12 : decode b_D_forget 12 = .ok (.invokevirtual 184, 3) := by decide +kernel
theorem d_D_forget_15 : decode b_D_forget 15 = .ok (.aload_n 0, 1) := by decide +kernel
theorem d_D_forget_16 : decode b_D_forget 16 = .ok (.getfield 34, 3) := by decide +kernel
theorem d_D_forget_19 : decode b_D_forget 19 = .ok (.iconst 0, 1) := by decide +kernel
theorem d_D_forget_20 : decode b_D_forget 20 = .ok (.invokestatic 187, 3) := by decide +kernel
theorem d_D_forget_23 : decode b_D_forget 23 = .ok (.return_, 1) := by decide +kernel
abbrev b_D_carryOut : ByteArray := prog_1_method_19_code
def y_D_carryOut : MethodName := ⟨R_D, "carryOut", "(I)I"⟩
abbrev w_D_carryOut : List Cond := .code y_D_carryOut b_D_carryOut 4 (some .int) :: ew_T
theorem g_D_carryOut : GoodIn ew_T w_D_carryOut := ew_good ew_344
theorem d_D_carryOut_0 : decode b_D_carryOut 0 = .ok (.aload_n 0, 1) := by decide +kernel
theorem d_D_carryOut_1 : decode b_D_carryOut 1 = .ok (.getfield 30, 3) := by decide +kernel
theorem d_D_carryOut_4 : decode b_D_carryOut 4 = .ok (.getfield 79, 3) := by decide +kernel
theorem d_D_carryOut_7 : decode b_D_carryOut 7 = .ok (.invokestatic 101, 3) := by decide +kernel
theorem d_D_carryOut_10 : decode b_D_carryOut 10 = .ok (.istore_n 2, 1) := by decide +kernel
theorem d_D_carryOut_11 : decode b_D_carryOut 11 = .ok (.iconst 0, 1) := by decide +kernel
theorem d_D_carryOut_12 : decode b_D_carryOut 12 = .ok (.istore_n 3, 1) := by decide +kernel
theorem d_D_carryOut_13 : decode b_D_carryOut 13 = .ok (.iload_n 3, 1) := by decide +kernel
theorem d_D_carryOut_14 : decode b_D_carryOut 14 = .ok (.iload_n 2, 1) := by decide +kernel
theorem d_D_carryOut_15 : decode b_D_carryOut 15 = .ok (.if_icmp .ge 41, 3) := by decide +kernel
theorem d_D_carryOut_18 : decode b_D_carryOut 18 = .ok (.aload_n 0, 1) := by decide +kernel
theorem d_D_carryOut_19 : decode b_D_carryOut 19 = .ok (.getfield 23, 3) := by decide +kernel
theorem d_D_carryOut_22 : decode b_D_carryOut 22 = .ok (.iload_n 1, 1) := by decide +kernel
theorem d_D_carryOut_23 : decode b_D_carryOut 23 = .ok (.iload_n 3, 1) := by decide +kernel
theorem d_D_carryOut_24 : decode b_D_carryOut 24 = .ok (.iadd, 1) := by decide +kernel
theorem d_D_carryOut_25 : decode b_D_carryOut 25 = .ok (.aload_n 0, 1) := by decide +kernel
theorem d_D_carryOut_26 : decode b_D_carryOut 26 = .ok (.getfield 30, 3) := by decide +kernel
theorem d_D_carryOut_29 : decode b_D_carryOut 29 = .ok (.getfield 173, 3) := by decide +kernel
theorem d_D_carryOut_32 : decode b_D_carryOut 32 = .ok (.iload_n 3, 1) := by decide +kernel
theorem d_D_carryOut_33 : decode b_D_carryOut 33 = .ok (.sipush 4096, 3) := by decide +kernel
theorem d_D_carryOut_36 : decode b_D_carryOut 36 = .ok (.imul, 1) := by decide +kernel
theorem d_D_carryOut_37 : decode b_D_carryOut 37 = .ok (.invokevirtual 176, 3) := by decide +kernel
theorem d_D_carryOut_40 : decode b_D_carryOut 40 = .ok (.ifCond .ne 10, 3) := by decide +kernel
theorem d_D_carryOut_43 : decode b_D_carryOut 43 = .ok (.aload_n 0, 1) := by decide +kernel
theorem d_D_carryOut_44 : decode b_D_carryOut 44 = .ok (.invokevirtual 141, 3) := by decide +kernel
theorem d_D_carryOut_47 : decode b_D_carryOut 47 = .ok (.bipush (-3), 2) := by decide +kernel
theorem d_D_carryOut_49 : decode b_D_carryOut 49 = .ok (.ireturn, 1) := by decide +kernel
theorem d_D_carryOut_50 : decode b_D_carryOut 50 = .ok (.iinc 3 1, 3) := by decide +kernel
theorem d_D_carryOut_53 : decode b_D_carryOut 53 = .ok (.goto (-40), 3) := by decide +kernel
theorem d_D_carryOut_56 : decode b_D_carryOut 56 = .ok (.aload_n 0, 1) := by decide +kernel
theorem d_D_carryOut_57 : decode b_D_carryOut 57 = .ok (.getfield 52, 3) := by decide +kernel
theorem d_D_carryOut_60 : decode b_D_carryOut 60 = .ok (.aload_n 0, 1) := by decide +kernel
theorem d_D_carryOut_61 : decode b_D_carryOut 61 = .ok (.getfield 38, 3) := by decide +kernel
theorem d_D_carryOut_64 : decode b_D_carryOut 64 = .ok (.invokevirtual 180, 3) := by decide +kernel
theorem d_D_carryOut_67 : decode b_D_carryOut 67 = .ok (.aload_n 0, 1) := by decide +kernel
theorem d_D_carryOut_68 : decode b_D_carryOut 68 = .ok (.getfield 23, 3) := by decide +kernel
theorem d_D_carryOut_71 : decode b_D_carryOut 71 = .ok (.aload_n 0, 1) := by decide +kernel
theorem d_D_carryOut_72 : decode b_D_carryOut 72 = .ok (.getfield 52, 3) := by decide +kernel
theorem d_D_carryOut_75 : decode b_D_carryOut 75 = .ok (.getfield 148, 3) := by decide +kernel
theorem d_D_carryOut_78 : decode b_D_carryOut 78 = .ok (.iconst 1, 1) := by decide +kernel
theorem d_D_carryOut_79 : decode b_D_carryOut 79 = .ok (.iand, 1) := by decide +kernel
theorem d_D_carryOut_80 : decode b_D_carryOut 80 = .ok (.aload_n 0, 1) := by decide +kernel
theorem d_D_carryOut_81 : decode b_D_carryOut 81 = .ok (.getfield 38, 3) := by decide +kernel
theorem d_D_carryOut_84 : decode b_D_carryOut 84 = .ok (.iconst 0, 1) := by decide +kernel
theorem d_D_carryOut_85 : decode b_D_carryOut 85 = .ok (.invokevirtual 176, 3) := by decide +kernel
theorem d_D_carryOut_88 : decode b_D_carryOut 88 = .ok (.ifCond .ne 10, 3) := by decide +kernel
theorem d_D_carryOut_91 : decode b_D_carryOut 91 = .ok (.aload_n 0, 1) := by decide +kernel
theorem d_D_carryOut_92 : decode b_D_carryOut 92 = .ok (.invokevirtual 141, 3) := by decide +kernel
theorem d_D_carryOut_95 : decode b_D_carryOut 95 = .ok (.bipush (-3), 2) := by decide +kernel
theorem d_D_carryOut_97 : decode b_D_carryOut 97 = .ok (.ireturn, 1) := by decide +kernel
theorem d_D_carryOut_98 : decode b_D_carryOut 98 = .ok (.aload_n 0, 1) := by decide +kernel
theorem d_D_carryOut_99 : decode b_D_carryOut 99 = .ok (.invokevirtual 151, 3) := by decide +kernel
theorem d_D_carryOut_102 : decode b_D_carryOut 102 = .ok (.aload_n 0, 1) := by decide +kernel
theorem d_D_carryOut_103 : decode b_D_carryOut 103 = .ok (.getfield 30, 3) := by decide +kernel
theorem d_D_carryOut_106 : decode b_D_carryOut 106 = .ok (.iconst 0, 1) := by decide +kernel
theorem d_D_carryOut_107 : decode b_D_carryOut 107 = .ok (.putfield 79, 3) := by decide +kernel
theorem d_D_carryOut_110 : decode b_D_carryOut 110 = .ok (.iload_n 2, 1) := by decide +kernel
theorem d_D_carryOut_111 : decode b_D_carryOut 111 = .ok (.iconst 1, 1) := by decide +kernel
theorem d_D_carryOut_112 : decode b_D_carryOut 112 = .ok (.iadd, 1) := by decide +kernel
theorem d_D_carryOut_113 : decode b_D_carryOut 113 = .ok (.ireturn, 1) := by decide +kernel
abbrev b_D_drop : ByteArray := prog_1_method_4_code
def y_D_drop : MethodName := ⟨R_D, "drop", "()I"⟩
abbrev w_D_drop : List Cond := .code y_D_drop b_D_drop 2 (some .int) :: ew_T
theorem g_D_drop : GoodIn ew_T w_D_drop := ew_good ew_295
theorem d_D_drop_0 : decode b_D_drop 0 = .ok (.aload_n 0, 1) := by decide +kernel
theorem d_D_drop_1 : decode b_D_drop 1 = .ok (.getfield 23, 3) := by decide +kernel
theorem d_D_drop_4 : decode b_D_drop 4 = .ok (.getfield 62, 3) := by decide +kernel
theorem d_D_drop_7 : decode b_D_drop 7 = .ok (.ifCond .eq 13, 3) := by decide +kernel
theorem d_D_drop_10 : decode b_D_drop 10 = .ok (.new 70, 3) := by decide +kernel
theorem d_D_drop_13 : decode b_D_drop 13 = .ok (.dup, 1) := by decide +kernel
theorem d_D_drop_14 : decode b_D_drop 14 = .ok (.ldc 86, 2) := by decide +kernel
theorem d_D_drop_16 : decode b_D_drop 16 = .ok (.invokespecial 74, 3) := by decide +kernel
theorem d_D_drop_19 : decode b_D_drop 19 = .ok (.athrow, 1) := by decide +kernel
theorem d_D_drop_20 : decode b_D_drop 20 = .ok (.aload_n 0, 1) := by decide +kernel
theorem d_D_drop_21 : decode b_D_drop 21 = .ok (.getfield 30, 3) := by decide +kernel
theorem d_D_drop_24 : decode b_D_drop 24 = .ok (.getfield 79, 3) := by decide +kernel
theorem d_D_drop_27 : decode b_D_drop 27 = .ok (.istore_n 1, 1) := by decide +kernel
theorem d_D_drop_28 : decode b_D_drop 28 = .ok (.aload_n 0, 1) := by decide +kernel
theorem d_D_drop_29 : decode b_D_drop 29 = .ok (.getfield 30, 3) := by decide +kernel
theorem d_D_drop_32 : decode b_D_drop 32 = .ok (.iconst 0, 1) := by decide +kernel
theorem d_D_drop_33 : decode b_D_drop 33 = .ok (.putfield 79, 3) := by decide +kernel
theorem d_D_drop_36 : decode b_D_drop 36 = .ok (.iload_n 1, 1) := by decide +kernel
theorem d_D_drop_37 : decode b_D_drop 37 = .ok (.ireturn, 1) := by decide +kernel
abbrev b_D_wish : ByteArray := prog_1_method_5_code
def y_D_wish : MethodName := ⟨R_D, "wish", "(II)I"⟩
abbrev w_D_wish : List Cond := .code y_D_wish b_D_wish 4 (some .int) :: ew_T
theorem g_D_wish : GoodIn ew_T w_D_wish := ew_good ew_303
theorem d_D_wish_0 : decode b_D_wish 0 = .ok (.iload_n 1, 1) := by decide +kernel
theorem d_D_wish_1 : decode b_D_wish 1 = .ok (.ifCond .lt 9, 3) := by decide +kernel
theorem d_D_wish_4 : decode b_D_wish 4 = .ok (.iload_n 1, 1) := by decide +kernel
theorem d_D_wish_5 : decode b_D_wish 5 = .ok (.bipush 24, 2) := by decide +kernel
theorem d_D_wish_7 : decode b_D_wish 7 = .ok (.if_icmp .lt 13, 3) := by decide +kernel
theorem d_D_wish_10 : decode b_D_wish 10 = .ok (.new 55, 3) := by decide +kernel
theorem d_D_wish_13 : decode b_D_wish 13 = .ok (.dup, 1) := by decide +kernel
theorem d_D_wish_14 : decode b_D_wish 14 = .ok (.ldc 88, 2) := by decide +kernel
theorem d_D_wish_16 : decode b_D_wish 16 = .ok (.invokespecial 59, 3) := by decide +kernel
theorem d_D_wish_19 : decode b_D_wish 19 = .ok (.athrow, 1) := by decide +kernel
theorem d_D_wish_20 : decode b_D_wish 20 = .ok (.aload_n 0, 1) := by decide +kernel
theorem d_D_wish_21 : decode b_D_wish 21 = .ok (.getfield 23, 3) := by decide +kernel
theorem d_D_wish_24 : decode b_D_wish 24 = .ok (.getfield 62, 3) := by decide +kernel
theorem d_D_wish_27 : decode b_D_wish 27 = .ok (.ifCond .eq 13, 3) := by decide +kernel
theorem d_D_wish_30 : decode b_D_wish 30 = .ok (.new 70, 3) := by decide +kernel
theorem d_D_wish_33 : decode b_D_wish 33 = .ok (.dup, 1) := by decide +kernel
theorem d_D_wish_34 : decode b_D_wish 34 = .ok (.ldc 86, 2) := by decide +kernel
theorem d_D_wish_36 : decode b_D_wish 36 = .ok (.invokespecial 74, 3) := by decide +kernel
theorem d_D_wish_39 : decode b_D_wish 39 = .ok (.athrow, 1) := by decide +kernel
theorem d_D_wish_40 : decode b_D_wish 40 = .ok (.aload_n 0, 1) := by decide +kernel
theorem d_D_wish_41 : decode b_D_wish 41 = .ok (.getfield 34, 3) := by decide +kernel
theorem d_D_wish_44 : decode b_D_wish 44 = .ok (.iload_n 1, 1) := by decide +kernel
theorem d_D_wish_45 : decode b_D_wish 45 = .ok (.iaload, 1) := by decide +kernel
theorem d_D_wish_46 : decode b_D_wish 46 = .ok (.istore_n 3, 1) := by decide +kernel
theorem d_D_wish_47 : decode b_D_wish 47 = .ok (.aload_n 0, 1) := by decide +kernel
theorem d_D_wish_48 : decode b_D_wish 48 = .ok (.getfield 34, 3) := by decide +kernel
theorem d_D_wish_51 : decode b_D_wish 51 = .ok (.iload_n 1, 1) := by decide +kernel
theorem d_D_wish_52 : decode b_D_wish 52 = .ok (.iload_n 2, 1) := by decide +kernel
theorem d_D_wish_53 : decode b_D_wish 53 = .ok (.iastore, 1) := by decide +kernel
theorem d_D_wish_54 : decode b_D_wish 54 = .ok (.iload_n 3, 1) := by decide +kernel
theorem d_D_wish_55 : decode b_D_wish 55 = .ok (.ireturn, 1) := by decide +kernel
abbrev b_D_note : ByteArray := prog_1_method_6_code
def y_D_note : MethodName := ⟨R_D, "note", "(I)I"⟩
abbrev w_D_note : List Cond := .code y_D_note b_D_note 2 (some .int) :: ew_T
theorem g_D_note : GoodIn ew_T w_D_note := ew_good ew_311
theorem d_D_note_0 : decode b_D_note 0 = .ok (.iload_n 1, 1) := by decide +kernel
theorem d_D_note_1 : decode b_D_note 1 = .ok (.ifCond .lt 9, 3) := by decide +kernel
theorem d_D_note_4 : decode b_D_note 4 = .ok (.iload_n 1, 1) := by decide +kernel
theorem d_D_note_5 : decode b_D_note 5 = .ok (.bipush 24, 2) := by decide +kernel
theorem d_D_note_7 : decode b_D_note 7 = .ok (.if_icmp .lt 13, 3) := by decide +kernel
theorem d_D_note_10 : decode b_D_note 10 = .ok (.new 55, 3) := by decide +kernel
theorem d_D_note_13 : decode b_D_note 13 = .ok (.dup, 1) := by decide +kernel
theorem d_D_note_14 : decode b_D_note 14 = .ok (.ldc 88, 2) := by decide +kernel
theorem d_D_note_16 : decode b_D_note 16 = .ok (.invokespecial 59, 3) := by decide +kernel
theorem d_D_note_19 : decode b_D_note 19 = .ok (.athrow, 1) := by decide +kernel
theorem d_D_note_20 : decode b_D_note 20 = .ok (.aload_n 0, 1) := by decide +kernel
theorem d_D_note_21 : decode b_D_note 21 = .ok (.getfield 23, 3) := by decide +kernel
theorem d_D_note_24 : decode b_D_note 24 = .ok (.getfield 62, 3) := by decide +kernel
theorem d_D_note_27 : decode b_D_note 27 = .ok (.ifCond .eq 13, 3) := by decide +kernel
theorem d_D_note_30 : decode b_D_note 30 = .ok (.new 70, 3) := by decide +kernel
theorem d_D_note_33 : decode b_D_note 33 = .ok (.dup, 1) := by decide +kernel
theorem d_D_note_34 : decode b_D_note 34 = .ok (.ldc 86, 2) := by decide +kernel
theorem d_D_note_36 : decode b_D_note 36 = .ok (.invokespecial 74, 3) := by decide +kernel
theorem d_D_note_39 : decode b_D_note 39 = .ok (.athrow, 1) := by decide +kernel
theorem d_D_note_40 : decode b_D_note 40 = .ok (.aload_n 0, 1) := by decide +kernel
theorem d_D_note_41 : decode b_D_note 41 = .ok (.getfield 48, 3) := by decide +kernel
theorem d_D_note_44 : decode b_D_note 44 = .ok (.getfield 90, 3) := by decide +kernel
theorem d_D_note_47 : decode b_D_note 47 = .ok (.iload_n 1, 1) := by decide +kernel
theorem d_D_note_48 : decode b_D_note 48 = .ok (.iaload, 1) := by decide +kernel
theorem d_D_note_49 : decode b_D_note 49 = .ok (.ireturn, 1) := by decide +kernel
abbrev b_D_put : ByteArray := prog_1_method_2_code
def y_D_put : MethodName := ⟨R_D, "put", "(JI)I"⟩
abbrev w_D_put : List Cond := .code y_D_put b_D_put 5 (some .int) :: ew_T
theorem g_D_put : GoodIn ew_T w_D_put := ew_good ew_189
theorem d_D_put_0 : decode b_D_put 0 = .ok (.iload_n 3, 1) := by decide +kernel
theorem d_D_put_1 : decode b_D_put 1 = .ok (.iconst 1, 1) := by decide +kernel
theorem d_D_put_2 : decode b_D_put 2 = .ok (.if_icmp .lt 9, 3) := by decide +kernel
theorem d_D_put_5 : decode b_D_put 5 = .ok (.iload_n 3, 1) := by decide +kernel
theorem d_D_put_6 : decode b_D_put 6 = .ok (.bipush 8, 2) := by decide +kernel
theorem d_D_put_8 : decode b_D_put 8 = .ok (.if_icmp .le 13, 3) := by decide +kernel
theorem d_D_put_11 : decode b_D_put 11 = .ok (.new 55, 3) := by decide +kernel
theorem d_D_put_14 : decode b_D_put 14 = .ok (.dup, 1) := by decide +kernel
theorem d_D_put_15 : decode b_D_put 15 = .ok (.ldc 57, 2) := by decide +kernel
theorem d_D_put_17 : decode b_D_put 17 = .ok (.invokespecial 59, 3) := by decide +kernel
theorem d_D_put_20 : decode b_D_put 20 = .ok (.athrow, 1) := by decide +kernel
theorem d_D_put_21 : decode b_D_put 21 = .ok (.aload_n 0, 1) := by decide +kernel
theorem d_D_put_22 : decode b_D_put 22 = .ok (.getfield 23, 3) := by decide +kernel
theorem d_D_put_25 : decode b_D_put 25 = .ok (.getfield 62, 3) := by decide +kernel
theorem d_D_put_28 : decode b_D_put 28 = .ok (.ifCond .ne 14, 3) := by decide +kernel
theorem d_D_put_31 : decode b_D_put 31 = .ok (.aload_n 0, 1) := by decide +kernel
theorem d_D_put_32 : decode b_D_put 32 = .ok (.getfield 30, 3) := by decide +kernel
theorem d_D_put_35 : decode b_D_put 35 = .ok (.iload_n 3, 1) := by decide +kernel
theorem d_D_put_36 : decode b_D_put 36 = .ok (.invokevirtual 66, 3) := by decide +kernel
theorem d_D_put_39 : decode b_D_put 39 = .ok (.ifCond .ne 13, 3) := by decide +kernel
theorem d_D_put_42 : decode b_D_put 42 = .ok (.new 70, 3) := by decide +kernel
theorem d_D_put_45 : decode b_D_put 45 = .ok (.dup, 1) := by decide +kernel
theorem d_D_put_46 : decode b_D_put 46 = .ok (.ldc 72, 2) := by decide +kernel
theorem d_D_put_48 : decode b_D_put 48 = .ok (.invokespecial 74, 3) := by decide +kernel
theorem d_D_put_51 : decode b_D_put 51 = .ok (.athrow, 1) := by decide +kernel
theorem d_D_put_52 : decode b_D_put 52 = .ok (.iload_n 3, 1) := by decide +kernel
theorem d_D_put_53 : decode b_D_put 53 = .ok (.iconst 1, 1) := by decide +kernel
theorem d_D_put_54 : decode b_D_put 54 = .ok (.isub, 1) := by decide +kernel
theorem d_D_put_55 : decode b_D_put 55 = .ok (.istore 4, 2) := by decide +kernel
theorem d_D_put_57 : decode b_D_put 57 = .ok (.iload 4, 2) := by decide +kernel
theorem d_D_put_59 : decode b_D_put 59 = .ok (.ifCond .lt 25, 3) := by decide +kernel
theorem d_D_put_62 : decode b_D_put 62 = .ok (.aload_n 0, 1) := by decide +kernel
theorem d_D_put_63 : decode b_D_put 63 = .ok (.getfield 30, 3) := by decide +kernel
theorem d_D_put_66 : decode b_D_put 66 = .ok (.lload_n 1, 1) := by decide +kernel
theorem d_D_put_67 : decode b_D_put 67 = .ok (.bipush 8, 2) := by decide +kernel
theorem d_D_put_69 : decode b_D_put 69 = .ok (.iload 4, 2) := by decide +kernel
theorem d_D_put_71 : decode b_D_put 71 = .ok (.imul, 1) := by decide +kernel
theorem d_D_put_72 : decode b_D_put 72 = .ok (.lushr, 1) := by decide +kernel
theorem d_D_put_73 : decode b_D_put 73 = .ok (.l2i, 1) := by decide +kernel
theorem d_D_put_74 : decode b_D_put 74 = .ok (.i2b, 1) := by decide +kernel
theorem d_D_put_75 : decode b_D_put 75 = .ok (.invokevirtual 75, 3) := by decide +kernel
theorem d_D_put_78 : decode b_D_put 78 = .ok (.iinc 4 (-1), 3) := by decide +kernel
theorem d_D_put_81 : decode b_D_put 81 = .ok (.goto (-24), 3) := by decide +kernel
theorem d_D_put_84 : decode b_D_put 84 = .ok (.aload_n 0, 1) := by decide +kernel
theorem d_D_put_85 : decode b_D_put 85 = .ok (.getfield 30, 3) := by decide +kernel
theorem d_D_put_88 : decode b_D_put 88 = .ok (.getfield 79, 3) := by decide +kernel
theorem d_D_put_91 : decode b_D_put 91 = .ok (.ireturn, 1) := by decide +kernel
abbrev b_D_fill : ByteArray := prog_1_method_3_code
def y_D_fill : MethodName := ⟨R_D, "fill", "(II)I"⟩
abbrev w_D_fill : List Cond := .code y_D_fill b_D_fill 4 (some .int) :: ew_T
theorem g_D_fill : GoodIn ew_T w_D_fill := ew_good ew_286
theorem d_D_fill_0 : decode b_D_fill 0 = .ok (.iload_n 2, 1) := by decide +kernel
theorem d_D_fill_1 : decode b_D_fill 1 = .ok (.iconst 1, 1) := by decide +kernel
theorem d_D_fill_2 : decode b_D_fill 2 = .ok (.if_icmp .lt 9, 3) := by decide +kernel
theorem d_D_fill_5 : decode b_D_fill 5 = .ok (.iload_n 2, 1) := by decide +kernel
theorem d_D_fill_6 : decode b_D_fill 6 = .ok (.ldc 83, 2) := by decide +kernel
theorem d_D_fill_8 : decode b_D_fill 8 = .ok (.if_icmp .le 13, 3) := by decide +kernel
theorem d_D_fill_11 : decode b_D_fill 11 = .ok (.new 55, 3) := by decide +kernel
theorem d_D_fill_14 : decode b_D_fill 14 = .ok (.dup, 1) := by decide +kernel
theorem d_D_fill_15 : decode b_D_fill 15 = .ok (.ldc 84, 2) := by decide +kernel
theorem d_D_fill_17 : decode b_D_fill 17 = .ok (.invokespecial 59, 3) := by decide +kernel
theorem d_D_fill_20 : decode b_D_fill 20 = .ok (.athrow, 1) := by decide +kernel
theorem d_D_fill_21 : decode b_D_fill 21 = .ok (.aload_n 0, 1) := by decide +kernel
theorem d_D_fill_22 : decode b_D_fill 22 = .ok (.getfield 23, 3) := by decide +kernel
theorem d_D_fill_25 : decode b_D_fill 25 = .ok (.getfield 62, 3) := by decide +kernel
theorem d_D_fill_28 : decode b_D_fill 28 = .ok (.ifCond .ne 14, 3) := by decide +kernel
theorem d_D_fill_31 : decode b_D_fill 31 = .ok (.aload_n 0, 1) := by decide +kernel
theorem d_D_fill_32 : decode b_D_fill 32 = .ok (.getfield 30, 3) := by decide +kernel
theorem d_D_fill_35 : decode b_D_fill 35 = .ok (.iload_n 2, 1) := by decide +kernel
theorem d_D_fill_36 : decode b_D_fill 36 = .ok (.invokevirtual 66, 3) := by decide +kernel
theorem d_D_fill_39 : decode b_D_fill 39 = .ok (.ifCond .ne 13, 3) := by decide +kernel
theorem d_D_fill_42 : decode b_D_fill 42 = .ok (.new 70, 3) := by decide +kernel
theorem d_D_fill_45 : decode b_D_fill 45 = .ok (.dup, 1) := by decide +kernel
theorem d_D_fill_46 : decode b_D_fill 46 = .ok (.ldc 72, 2) := by decide +kernel
theorem d_D_fill_48 : decode b_D_fill 48 = .ok (.invokespecial 74, 3) := by decide +kernel
theorem d_D_fill_51 : decode b_D_fill 51 = .ok (.athrow, 1) := by decide +kernel
theorem d_D_fill_52 : decode b_D_fill 52 = .ok (.iconst 0, 1) := by decide +kernel
theorem d_D_fill_53 : decode b_D_fill 53 = .ok (.istore_n 3, 1) := by decide +kernel
theorem d_D_fill_54 : decode b_D_fill 54 = .ok (.iload_n 3, 1) := by decide +kernel
theorem d_D_fill_55 : decode b_D_fill 55 = .ok (.iload_n 2, 1) := by decide +kernel
theorem d_D_fill_56 : decode b_D_fill 56 = .ok (.if_icmp .ge 20, 3) := by decide +kernel
theorem d_D_fill_59 : decode b_D_fill 59 = .ok (.aload_n 0, 1) := by decide +kernel
theorem d_D_fill_60 : decode b_D_fill 60 = .ok (.getfield 30, 3) := by decide +kernel
theorem d_D_fill_63 : decode b_D_fill 63 = .ok (.iload_n 1, 1) := by decide +kernel
theorem d_D_fill_64 : decode b_D_fill 64 = .ok (.iload_n 3, 1) := by decide +kernel
theorem d_D_fill_65 : decode b_D_fill 65 = .ok (.iadd, 1) := by decide +kernel
theorem d_D_fill_66 : decode b_D_fill 66 = .ok (.i2b, 1) := by decide +kernel
theorem d_D_fill_67 : decode b_D_fill 67 = .ok (.invokevirtual 75, 3) := by decide +kernel
theorem d_D_fill_70 : decode b_D_fill 70 = .ok (.iinc 3 1, 3) := by decide +kernel
theorem d_D_fill_73 : decode b_D_fill 73 = .ok (.goto (-19), 3) := by decide +kernel
theorem d_D_fill_76 : decode b_D_fill 76 = .ok (.aload_n 0, 1) := by decide +kernel
theorem d_D_fill_77 : decode b_D_fill 77 = .ok (.getfield 30, 3) := by decide +kernel
theorem d_D_fill_80 : decode b_D_fill 80 = .ok (.getfield 79, 3) := by decide +kernel
theorem d_D_fill_83 : decode b_D_fill 83 = .ok (.ireturn, 1) := by decide +kernel
abbrev b_D_isDown : ByteArray := prog_1_method_12_code
def y_D_isDown : MethodName := ⟨R_D, "isDown", "()Z"⟩
abbrev w_D_isDown : List Cond := .code y_D_isDown b_D_isDown 1 (some .boolean) :: ew_T
theorem g_D_isDown : GoodIn ew_T w_D_isDown := ew_good ew_173
theorem d_D_isDown_0 : decode b_D_isDown 0 = .ok (.aload_n 0, 1) := by decide +kernel
theorem d_D_isDown_1 : decode b_D_isDown 1 = .ok (.getfield 23, 3) := by decide +kernel
theorem d_D_isDown_4 : decode b_D_isDown 4 = .ok (.getfield 62, 3) := by decide +kernel
theorem d_D_isDown_7 : decode b_D_isDown 7 = .ok (.ireturn, 1) := by decide +kernel
abbrev b_D_writes : ByteArray := prog_1_method_13_code
def y_D_writes : MethodName := ⟨R_D, "writes", "()I"⟩
abbrev w_D_writes : List Cond := .code y_D_writes b_D_writes 1 (some .int) :: ew_T
theorem g_D_writes : GoodIn ew_T w_D_writes := ew_good ew_177
theorem d_D_writes_0 : decode b_D_writes 0 = .ok (.aload_n 0, 1) := by decide +kernel
theorem d_D_writes_1 : decode b_D_writes 1 = .ok (.getfield 23, 3) := by decide +kernel
theorem d_D_writes_4 : decode b_D_writes 4 = .ok (.getfield 163, 3) := by decide +kernel
theorem d_D_writes_7 : decode b_D_writes 7 = .ok (.ireturn, 1) := by decide +kernel
abbrev b_D_crash : ByteArray := prog_1_method_10_code
def y_D_crash : MethodName := ⟨R_D, "crash", "(I)V"⟩
abbrev w_D_crash : List Cond := .code y_D_crash b_D_crash 2 none :: ew_T
theorem g_D_crash : GoodIn ew_T w_D_crash := ew_good ew_392
theorem d_D_crash_0 : decode b_D_crash 0 = .ok (.iload_n 1, 1) := by decide +kernel
theorem d_D_crash_1 : decode b_D_crash 1 = .ok (.iconst (-1), 1) := by decide +kernel
theorem d_D_crash_2 : decode b_D_crash 2 = .ok (.if_icmp .lt 10, 3) := by decide +kernel
theorem d_D_crash_5 : decode b_D_crash 5 = .ok (.iload_n 1, 1) := by decide +kernel
theorem d_D_crash_6 : decode b_D_crash 6 = .ok (.sipush 1000, 3) := by decide +kernel
theorem d_D_crash_9 : decode b_D_crash 9 = .ok (.if_icmp .le 13, 3) := by decide +kernel
theorem d_D_crash_12 : decode b_D_crash 12 = .ok (.new 55, 3) := by decide +kernel
theorem d_D_crash_15 : decode b_D_crash 15 = .ok (.dup, 1) := by decide +kernel
theorem d_D_crash_16 : decode b_D_crash 16 = .ok (.ldc 136, 2) := by decide +kernel
theorem d_D_crash_18 : decode b_D_crash 18 = .ok (.invokespecial 59, 3) := by decide +kernel
theorem d_D_crash_21 : decode b_D_crash 21 = .ok (.athrow, 1) := by decide +kernel
theorem d_D_crash_22 : decode b_D_crash 22 = .ok (.aload_n 0, 1) := by decide +kernel
theorem d_D_crash_23 : decode b_D_crash 23 = .ok (.getfield 23, 3) := by decide +kernel
theorem d_D_crash_26 : decode b_D_crash 26 = .ok (.getfield 62, 3) := by decide +kernel
theorem d_D_crash_29 : decode b_D_crash 29 = .ok (.ifCond .eq 13, 3) := by decide +kernel
theorem d_D_crash_32 : decode b_D_crash 32 = .ok (.new 70, 3) := by decide +kernel
theorem d_D_crash_35 : decode b_D_crash 35 = .ok (.dup, 1) := by decide +kernel
theorem d_D_crash_36 : decode b_D_crash 36 = .ok (.ldc 86, 2) := by decide +kernel
theorem d_D_crash_38 : decode b_D_crash 38 = .ok (.invokespecial 74, 3) := by decide +kernel
theorem d_D_crash_41 : decode b_D_crash 41 = .ok (.athrow, 1) := by decide +kernel
theorem d_D_crash_42 : decode b_D_crash 42 = .ok (.aload_n 0, 1) := by decide +kernel
theorem d_D_crash_43 : decode b_D_crash 43 = .ok (.getfield 23, 3) := by decide +kernel
theorem d_D_crash_46 : decode b_D_crash 46 = .ok (.iload_n 1, 1) := by decide +kernel
theorem d_D_crash_47 : decode b_D_crash 47 = .ok (.invokevirtual 138, 3) := by decide +kernel
theorem d_D_crash_50 : decode b_D_crash 50 = .ok (.aload_n 0, 1) := by decide +kernel
theorem d_D_crash_51 : decode b_D_crash 51 = .ok (.getfield 23, 3) := by decide +kernel
theorem d_D_crash_54 : decode b_D_crash 54 = .ok (.getfield 62, 3) := by decide +kernel
theorem d_D_crash_57 : decode b_D_crash 57 = .ok (.ifCond .eq 7, 3) := by decide +kernel
theorem d_D_crash_60 : decode b_D_crash 60 = .ok (.aload_n 0, 1) := by decide +kernel
theorem d_D_crash_61 : decode b_D_crash 61 = .ok (.invokevirtual 141, 3) := by decide +kernel
theorem d_D_crash_64 : decode b_D_crash 64 = .ok (.return_, 1) := by decide +kernel
abbrev b_D_byteAt : ByteArray := prog_1_method_9_code
def y_D_byteAt : MethodName := ⟨R_D, "byteAt", "(II)I"⟩
abbrev w_D_byteAt : List Cond := .code y_D_byteAt b_D_byteAt 3 (some .int) :: ew_T
theorem g_D_byteAt : GoodIn ew_T w_D_byteAt := ew_good ew_383
theorem d_D_byteAt_0 : decode b_D_byteAt 0 = .ok (.aload_n 0, 1) := by decide +kernel
theorem d_D_byteAt_1 : decode b_D_byteAt 1 = .ok (.getfield 48, 3) := by decide +kernel
theorem d_D_byteAt_4 : decode b_D_byteAt 4 = .ok (.iload_n 1, 1) := by decide +kernel
theorem d_D_byteAt_5 : decode b_D_byteAt 5 = .ok (.invokevirtual 115, 3) := by decide +kernel
theorem d_D_byteAt_8 : decode b_D_byteAt 8 = .ok (.ifCond .ne 13, 3) := by decide +kernel
theorem d_D_byteAt_11 : decode b_D_byteAt 11 = .ok (.new 55, 3) := by decide +kernel
theorem d_D_byteAt_14 : decode b_D_byteAt 14 = .ok (.dup, 1) := by decide +kernel
theorem d_D_byteAt_15 : decode b_D_byteAt 15 = .ok (.ldc 118, 2) := by decide +kernel
theorem d_D_byteAt_17 : decode b_D_byteAt 17 = .ok (.invokespecial 59, 3) := by decide +kernel
theorem d_D_byteAt_20 : decode b_D_byteAt 20 = .ok (.athrow, 1) := by decide +kernel
theorem d_D_byteAt_21 : decode b_D_byteAt 21 = .ok (.iload_n 2, 1) := by decide +kernel
theorem d_D_byteAt_22 : decode b_D_byteAt 22 = .ok (.ifCond .lt 16, 3) := by decide +kernel
theorem d_D_byteAt_25 : decode b_D_byteAt 25 = .ok (.iload_n 2, 1) := by decide +kernel
theorem d_D_byteAt_26 : decode b_D_byteAt 26 = .ok (.aload_n 0, 1) := by decide +kernel
theorem d_D_byteAt_27 : decode b_D_byteAt 27 = .ok (.getfield 48, 3) := by decide +kernel
theorem d_D_byteAt_30 : decode b_D_byteAt 30 = .ok (.getfield 126, 3) := by decide +kernel
theorem d_D_byteAt_33 : decode b_D_byteAt 33 = .ok (.iload_n 1, 1) := by decide +kernel
theorem d_D_byteAt_34 : decode b_D_byteAt 34 = .ok (.iaload, 1) := by decide +kernel
theorem d_D_byteAt_35 : decode b_D_byteAt 35 = .ok (.if_icmp .lt 13, 3) := by decide +kernel
theorem d_D_byteAt_38 : decode b_D_byteAt 38 = .ok (.new 55, 3) := by decide +kernel
theorem d_D_byteAt_41 : decode b_D_byteAt 41 = .ok (.dup, 1) := by decide +kernel
theorem d_D_byteAt_42 : decode b_D_byteAt 42 = .ok (.ldc 131, 2) := by decide +kernel
theorem d_D_byteAt_44 : decode b_D_byteAt 44 = .ok (.invokespecial 59, 3) := by decide +kernel
theorem d_D_byteAt_47 : decode b_D_byteAt 47 = .ok (.athrow, 1) := by decide +kernel
theorem d_D_byteAt_48 : decode b_D_byteAt 48 = .ok (.aload_n 0, 1) := by decide +kernel
theorem d_D_byteAt_49 : decode b_D_byteAt 49 = .ok (.getfield 23, 3) := by decide +kernel
theorem d_D_byteAt_52 : decode b_D_byteAt 52 = .ok (.aload_n 0, 1) := by decide +kernel
theorem d_D_byteAt_53 : decode b_D_byteAt 53 = .ok (.getfield 48, 3) := by decide +kernel
theorem d_D_byteAt_56 : decode b_D_byteAt 56 = .ok (.getfield 123, 3) := by decide +kernel
theorem d_D_byteAt_59 : decode b_D_byteAt 59 = .ok (.iload_n 1, 1) := by decide +kernel
theorem d_D_byteAt_60 : decode b_D_byteAt 60 = .ok (.iaload, 1) := by decide +kernel
theorem d_D_byteAt_61 : decode b_D_byteAt 61 = .ok (.sipush 4096, 3) := by decide +kernel
theorem d_D_byteAt_64 : decode b_D_byteAt 64 = .ok (.imul, 1) := by decide +kernel
theorem d_D_byteAt_65 : decode b_D_byteAt 65 = .ok (.iload_n 2, 1) := by decide +kernel
theorem d_D_byteAt_66 : decode b_D_byteAt 66 = .ok (.iadd, 1) := by decide +kernel
theorem d_D_byteAt_67 : decode b_D_byteAt 67 = .ok (.invokevirtual 133, 3) := by decide +kernel
theorem d_D_byteAt_70 : decode b_D_byteAt 70 = .ok (.ireturn, 1) := by decide +kernel
abbrev b_D_extent : ByteArray := prog_1_method_8_code
def y_D_extent : MethodName := ⟨R_D, "extent", "(II)I"⟩
abbrev w_D_extent : List Cond := .code y_D_extent b_D_extent 3 (some .int) :: ew_T
theorem g_D_extent : GoodIn ew_T w_D_extent := ew_good ew_370
theorem d_D_extent_0 : decode b_D_extent 0 = .ok (.aload_n 0, 1) := by decide +kernel
theorem d_D_extent_1 : decode b_D_extent 1 = .ok (.getfield 48, 3) := by decide +kernel
theorem d_D_extent_4 : decode b_D_extent 4 = .ok (.iload_n 1, 1) := by decide +kernel
theorem d_D_extent_5 : decode b_D_extent 5 = .ok (.invokevirtual 115, 3) := by decide +kernel
theorem d_D_extent_8 : decode b_D_extent 8 = .ok (.ifCond .ne 13, 3) := by decide +kernel
theorem d_D_extent_11 : decode b_D_extent 11 = .ok (.new 55, 3) := by decide +kernel
theorem d_D_extent_14 : decode b_D_extent 14 = .ok (.dup, 1) := by decide +kernel
theorem d_D_extent_15 : decode b_D_extent 15 = .ok (.ldc 118, 2) := by decide +kernel
theorem d_D_extent_17 : decode b_D_extent 17 = .ok (.invokespecial 59, 3) := by decide +kernel
theorem d_D_extent_20 : decode b_D_extent 20 = .ok (.athrow, 1) := by decide +kernel
theorem d_D_extent_21 : decode b_D_extent 21 = .ok (.iload_n 2, 1) := by decide +kernel
theorem d_D_extent_22 : decode b_D_extent 22 = .ok (.tableswitch 73 0 3 #[30, 40, 50, 63], 30) := by decide +kernel
theorem d_D_extent_52 : decode b_D_extent 52 = .ok (.aload_n 0, 1) := by decide +kernel
theorem d_D_extent_53 : decode b_D_extent 53 = .ok (.getfield 48, 3) := by decide +kernel
theorem d_D_extent_56 : decode b_D_extent 56 = .ok (.getfield 120, 3) := by decide +kernel
theorem d_D_extent_59 : decode b_D_extent 59 = .ok (.iload_n 1, 1) := by decide +kernel
theorem d_D_extent_60 : decode b_D_extent 60 = .ok (.iaload, 1) := by decide +kernel
theorem d_D_extent_61 : decode b_D_extent 61 = .ok (.ireturn, 1) := by decide +kernel
theorem d_D_extent_62 : decode b_D_extent 62 = .ok (.aload_n 0, 1) := by decide +kernel
theorem d_D_extent_63 : decode b_D_extent 63 = .ok (.getfield 48, 3) := by decide +kernel
theorem d_D_extent_66 : decode b_D_extent 66 = .ok (.getfield 123, 3) := by decide +kernel
theorem d_D_extent_69 : decode b_D_extent 69 = .ok (.iload_n 1, 1) := by decide +kernel
theorem d_D_extent_70 : decode b_D_extent 70 = .ok (.iaload, 1) := by decide +kernel
theorem d_D_extent_71 : decode b_D_extent 71 = .ok (.ireturn, 1) := by decide +kernel
theorem d_D_extent_72 : decode b_D_extent 72 = .ok (.aload_n 0, 1) := by decide +kernel
theorem d_D_extent_73 : decode b_D_extent 73 = .ok (.getfield 48, 3) := by decide +kernel
theorem d_D_extent_76 : decode b_D_extent 76 = .ok (.getfield 126, 3) := by decide +kernel
theorem d_D_extent_79 : decode b_D_extent 79 = .ok (.iload_n 1, 1) := by decide +kernel
theorem d_D_extent_80 : decode b_D_extent 80 = .ok (.iaload, 1) := by decide +kernel
theorem d_D_extent_81 : decode b_D_extent 81 = .ok (.invokestatic 101, 3) := by decide +kernel
theorem d_D_extent_84 : decode b_D_extent 84 = .ok (.ireturn, 1) := by decide +kernel
theorem d_D_extent_85 : decode b_D_extent 85 = .ok (.aload_n 0, 1) := by decide +kernel
theorem d_D_extent_86 : decode b_D_extent 86 = .ok (.getfield 48, 3) := by decide +kernel
theorem d_D_extent_89 : decode b_D_extent 89 = .ok (.getfield 126, 3) := by decide +kernel
theorem d_D_extent_92 : decode b_D_extent 92 = .ok (.iload_n 1, 1) := by decide +kernel
theorem d_D_extent_93 : decode b_D_extent 93 = .ok (.iaload, 1) := by decide +kernel
theorem d_D_extent_94 : decode b_D_extent 94 = .ok (.ireturn, 1) := by decide +kernel
theorem d_D_extent_95 : decode b_D_extent 95 = .ok (.new 55, 3) := by decide +kernel
theorem d_D_extent_98 : decode b_D_extent 98 = .ok (.dup, 1) := by decide +kernel
theorem d_D_extent_99 : decode b_D_extent 99 = .ok (.ldc 129, 2) := by decide +kernel
theorem d_D_extent_101 : decode b_D_extent 101 = .ok (.invokespecial 59, 3) := by decide +kernel
theorem d_D_extent_104 : decode b_D_extent 104 = .ok (.athrow, 1) := by decide +kernel
abbrev b_D_count : ByteArray := prog_1_method_14_code
def y_D_count : MethodName := ⟨R_D, "count", "(I)I"⟩
abbrev w_D_count : List Cond := .code y_D_count b_D_count 2 (some .int) :: ew_T
theorem g_D_count : GoodIn ew_T w_D_count := ew_good ew_400
theorem d_D_count_0 : decode b_D_count 0 = .ok (.iload_n 1, 1) := by decide +kernel
theorem d_D_count_1 : decode b_D_count 1 = .ok (.ifCond .lt 8, 3) := by decide +kernel
theorem d_D_count_4 : decode b_D_count 4 = .ok (.iload_n 1, 1) := by decide +kernel
theorem d_D_count_5 : decode b_D_count 5 = .ok (.iconst 3, 1) := by decide +kernel
theorem d_D_count_6 : decode b_D_count 6 = .ok (.if_icmp .le 13, 3) := by decide +kernel
theorem d_D_count_9 : decode b_D_count 9 = .ok (.new 55, 3) := by decide +kernel
theorem d_D_count_12 : decode b_D_count 12 = .ok (.dup, 1) := by decide +kernel
theorem d_D_count_13 : decode b_D_count 13 = .ok (.ldc 129, 2) := by decide +kernel
theorem d_D_count_15 : decode b_D_count 15 = .ok (.invokespecial 59, 3) := by decide +kernel
theorem d_D_count_18 : decode b_D_count 18 = .ok (.athrow, 1) := by decide +kernel
theorem d_D_count_19 : decode b_D_count 19 = .ok (.aload_n 0, 1) := by decide +kernel
theorem d_D_count_20 : decode b_D_count 20 = .ok (.getfield 23, 3) := by decide +kernel
theorem d_D_count_23 : decode b_D_count 23 = .ok (.getfield 62, 3) := by decide +kernel
theorem d_D_count_26 : decode b_D_count 26 = .ok (.ifCond .eq 13, 3) := by decide +kernel
theorem d_D_count_29 : decode b_D_count 29 = .ok (.new 70, 3) := by decide +kernel
theorem d_D_count_32 : decode b_D_count 32 = .ok (.dup, 1) := by decide +kernel
theorem d_D_count_33 : decode b_D_count 33 = .ok (.ldc 86, 2) := by decide +kernel
theorem d_D_count_35 : decode b_D_count 35 = .ok (.invokespecial 74, 3) := by decide +kernel
theorem d_D_count_38 : decode b_D_count 38 = .ok (.athrow, 1) := by decide +kernel
theorem d_D_count_39 : decode b_D_count 39 = .ok (.iload_n 1, 1) := by decide +kernel
theorem d_D_count_40 : decode b_D_count 40 = .ok (.tableswitch 49 0 2 #[28, 36, 41], 28) := by decide +kernel
theorem d_D_count_68 : decode b_D_count 68 = .ok (.aload_n 0, 1) := by decide +kernel
theorem d_D_count_69 : decode b_D_count 69 = .ok (.getfield 48, 3) := by decide +kernel
theorem d_D_count_72 : decode b_D_count 72 = .ok (.getfield 160, 3) := by decide +kernel
theorem d_D_count_75 : decode b_D_count 75 = .ok (.ireturn, 1) := by decide +kernel
theorem d_D_count_76 : decode b_D_count 76 = .ok (.aload_n 0, 1) := by decide +kernel
theorem d_D_count_77 : decode b_D_count 77 = .ok (.invokevirtual 166, 3) := by decide +kernel
theorem d_D_count_80 : decode b_D_count 80 = .ok (.ireturn, 1) := by decide +kernel
theorem d_D_count_81 : decode b_D_count 81 = .ok (.aload_n 0, 1) := by decide +kernel
theorem d_D_count_82 : decode b_D_count 82 = .ok (.getfield 30, 3) := by decide +kernel
theorem d_D_count_85 : decode b_D_count 85 = .ok (.getfield 79, 3) := by decide +kernel
theorem d_D_count_88 : decode b_D_count 88 = .ok (.ireturn, 1) := by decide +kernel
theorem d_D_count_89 : decode b_D_count 89 = .ok (.aload_n 0, 1) := by decide +kernel
theorem d_D_count_90 : decode b_D_count 90 = .ok (.getfield 48, 3) := by decide +kernel
theorem d_D_count_93 : decode b_D_count 93 = .ok (.getfield 148, 3) := by decide +kernel
theorem d_D_count_96 : decode b_D_count 96 = .ok (.ireturn, 1) := by decide +kernel
abbrev b_D_doubled : ByteArray := prog_1_method_15_code
def y_D_doubled : MethodName := ⟨R_D, "doubled", "()I"⟩
abbrev w_D_doubled : List Cond := .code y_D_doubled b_D_doubled 3 (some .int) :: ew_T
theorem g_D_doubled : GoodIn ew_T w_D_doubled := ew_good ew_411
theorem d_D_doubled_0 : decode b_D_doubled 0 = .ok (.aload_n 0, 1) := by decide +kernel
theorem d_D_doubled_1 : decode b_D_doubled 1 = .ok (.getfield 23, 3) := by decide +kernel
theorem d_D_doubled_4 : decode b_D_doubled 4 = .ok (.getfield 62, 3) := by decide +kernel
theorem d_D_doubled_7 : decode b_D_doubled 7 = .ok (.ifCond .eq 13, 3) := by decide +kernel
theorem d_D_doubled_10 : decode b_D_doubled 10 = .ok (.new 70, 3) := by decide +kernel
theorem d_D_doubled_13 : decode b_D_doubled 13 = .ok (.dup, 1) := by decide +kernel
theorem d_D_doubled_14 : decode b_D_doubled 14 = .ok (.ldc 86, 2) := by decide +kernel
theorem d_D_doubled_16 : decode b_D_doubled 16 = .ok (.invokespecial 74, 3) := by decide +kernel
theorem d_D_doubled_19 : decode b_D_doubled 19 = .ok (.athrow, 1) := by decide +kernel
theorem d_D_doubled_20 : decode b_D_doubled 20 = .ok (.aload_n 0, 1) := by decide +kernel
theorem d_D_doubled_21 : decode b_D_doubled 21 = .ok (.getfield 48, 3) := by decide +kernel
theorem d_D_doubled_24 : decode b_D_doubled 24 = .ok (.aload_n 0, 1) := by decide +kernel
theorem d_D_doubled_25 : decode b_D_doubled 25 = .ok (.getfield 42, 3) := by decide +kernel
theorem d_D_doubled_28 : decode b_D_doubled 28 = .ok (.invokevirtual 170, 3) := by decide +kernel
theorem d_D_doubled_31 : decode b_D_doubled 31 = .ok (.iconst 0, 1) := by decide +kernel
theorem d_D_doubled_32 : decode b_D_doubled 32 = .ok (.istore_n 1, 1) := by decide +kernel
theorem d_D_doubled_33 : decode b_D_doubled 33 = .ok (.iconst 0, 1) := by decide +kernel
theorem d_D_doubled_34 : decode b_D_doubled 34 = .ok (.istore_n 2, 1) := by decide +kernel
theorem d_D_doubled_35 : decode b_D_doubled 35 = .ok (.iload_n 2, 1) := by decide +kernel
theorem d_D_doubled_36 : decode b_D_doubled 36 = .ok (.aload_n 0, 1) := by decide +kernel
theorem d_D_doubled_37 : decode b_D_doubled 37 = .ok (.getfield 42, 3) := by decide +kernel
theorem d_D_doubled_40 : decode b_D_doubled 40 = .ok (.arraylength, 1) := by decide +kernel
theorem d_D_doubled_41 : decode b_D_doubled 41 = .ok (.if_icmp .ge 24, 3) := by decide +kernel
theorem d_D_doubled_44 : decode b_D_doubled 44 = .ok (.iload_n 1, 1) := by decide +kernel
theorem d_D_doubled_45 : decode b_D_doubled 45 = .ok (.iconst 0, 1) := by decide +kernel
theorem d_D_doubled_46 : decode b_D_doubled 46 = .ok (.aload_n 0, 1) := by decide +kernel
theorem d_D_doubled_47 : decode b_D_doubled 47 = .ok (.getfield 42, 3) := by decide +kernel
theorem d_D_doubled_50 : decode b_D_doubled 50 = .ok (.iload_n 2, 1) := by decide +kernel
theorem d_D_doubled_51 : decode b_D_doubled 51 = .ok (.iaload, 1) := by decide +kernel
theorem d_D_doubled_52 : decode b_D_doubled 52 = .ok (.iconst 1, 1) := by decide +kernel
theorem d_D_doubled_53 : decode b_D_doubled 53 = .ok (.isub, 1) := by decide +kernel
theorem d_D_doubled_54 : decode b_D_doubled 54 = .ok (.invokestatic 15, 3) := by decide +kernel
theorem d_D_doubled_57 : decode b_D_doubled 57 = .ok (.iadd, 1) := by decide +kernel
theorem d_D_doubled_58 : decode b_D_doubled 58 = .ok (.istore_n 1, 1) := by decide +kernel
theorem d_D_doubled_59 : decode b_D_doubled 59 = .ok (.iinc 2 1, 3) := by decide +kernel
theorem d_D_doubled_62 : decode b_D_doubled 62 = .ok (.goto (-27), 3) := by decide +kernel
theorem d_D_doubled_65 : decode b_D_doubled 65 = .ok (.iload_n 1, 1) := by decide +kernel
theorem d_D_doubled_66 : decode b_D_doubled 66 = .ok (.ireturn, 1) := by decide +kernel
abbrev b_D_recover : ByteArray := prog_1_method_11_code
def y_D_recover : MethodName := ⟨R_D, "recover", "()I"⟩
abbrev w_D_recover : List Cond := .code y_D_recover b_D_recover 1 (some .int) :: ew_T
theorem g_D_recover : GoodIn ew_T w_D_recover := ew_good ew_134
theorem d_D_recover_0 : decode b_D_recover 0 = .ok (.aload_n 0, 1) := by decide +kernel
theorem d_D_recover_1 : decode b_D_recover 1 = .ok (.getfield 23, 3) := by decide +kernel
theorem d_D_recover_4 : decode b_D_recover 4 = .ok (.iconst (-1), 1) := by decide +kernel
theorem d_D_recover_5 : decode b_D_recover 5 = .ok (.invokevirtual 138, 3) := by decide +kernel
theorem d_D_recover_8 : decode b_D_recover 8 = .ok (.aload_n 0, 1) := by decide +kernel
theorem d_D_recover_9 : decode b_D_recover 9 = .ok (.getfield 30, 3) := by decide +kernel
theorem d_D_recover_12 : decode b_D_recover 12 = .ok (.iconst 0, 1) := by decide +kernel
theorem d_D_recover_13 : decode b_D_recover 13 = .ok (.putfield 79, 3) := by decide +kernel
theorem d_D_recover_16 : decode b_D_recover 16 = .ok (.aload_n 0, 1) := by decide +kernel
theorem d_D_recover_17 : decode b_D_recover 17 = .ok (.getfield 48, 3) := by decide +kernel
theorem d_D_recover_20 : decode b_D_recover 20 = .ok (.aload_n 0, 1) := by decide +kernel
theorem d_D_recover_21 : decode b_D_recover 21 = .ok (.getfield 23, 3) := by decide +kernel
theorem d_D_recover_24 : decode b_D_recover 24 = .ok (.iconst 0, 1) := by decide +kernel
theorem d_D_recover_25 : decode b_D_recover 25 = .ok (.invokevirtual 144, 3) := by decide +kernel
theorem d_D_recover_28 : decode b_D_recover 28 = .ok (.aload_n 0, 1) := by decide +kernel
theorem d_D_recover_29 : decode b_D_recover 29 = .ok (.getfield 52, 3) := by decide +kernel
theorem d_D_recover_32 : decode b_D_recover 32 = .ok (.aload_n 0, 1) := by decide +kernel
theorem d_D_recover_33 : decode b_D_recover 33 = .ok (.getfield 23, 3) := by decide +kernel
theorem d_D_recover_36 : decode b_D_recover 36 = .ok (.iconst 1, 1) := by decide +kernel
theorem d_D_recover_37 : decode b_D_recover 37 = .ok (.invokevirtual 144, 3) := by decide +kernel
theorem d_D_recover_40 : decode b_D_recover 40 = .ok (.aload_n 0, 1) := by decide +kernel
theorem d_D_recover_41 : decode b_D_recover 41 = .ok (.getfield 52, 3) := by decide +kernel
theorem d_D_recover_44 : decode b_D_recover 44 = .ok (.getfield 148, 3) := by decide +kernel
theorem d_D_recover_47 : decode b_D_recover 47 = .ok (.aload_n 0, 1) := by decide +kernel
theorem d_D_recover_48 : decode b_D_recover 48 = .ok (.getfield 48, 3) := by decide +kernel
theorem d_D_recover_51 : decode b_D_recover 51 = .ok (.getfield 148, 3) := by decide +kernel
theorem d_D_recover_54 : decode b_D_recover 54 = .ok (.if_icmp .le 7, 3) := by decide +kernel
theorem d_D_recover_57 : decode b_D_recover 57 = .ok (.aload_n 0, 1) := by decide +kernel
theorem d_D_recover_58 : decode b_D_recover 58 = .ok (.invokevirtual 151, 3) := by decide +kernel
theorem d_D_recover_61 : decode b_D_recover 61 = .ok (.aload_n 0, 1) := by decide +kernel
theorem d_D_recover_62 : decode b_D_recover 62 = .ok (.getfield 48, 3) := by decide +kernel
theorem d_D_recover_65 : decode b_D_recover 65 = .ok (.getfield 90, 3) := by decide +kernel
theorem d_D_recover_68 : decode b_D_recover 68 = .ok (.iconst 0, 1) := by decide +kernel
theorem d_D_recover_69 : decode b_D_recover 69 = .ok (.aload_n 0, 1) := by decide +kernel
theorem d_D_recover_70 : decode b_D_recover 70 = .ok (.getfield 34, 3) := by decide +kernel
theorem d_D_recover_73 : decode b_D_recover 73 = .ok (.iconst 0, 1) := by decide +kernel
theorem d_D_recover_74 : decode b_D_recover 74 = .ok (.bipush 24, 2) := by decide +kernel
theorem d_D_recover_76 : decode b_D_recover 76 = .ok (.invokestatic 154, 3) := by decide +kernel
theorem d_D_recover_79 : decode b_D_recover 79 = .ok (.aload_n 0, 1) := by decide +kernel
theorem d_D_recover_80 : decode b_D_recover 80 = .ok (.getfield 48, 3) := by decide +kernel
theorem d_D_recover_83 : decode b_D_recover 83 = .ok (.getfield 160, 3) := by decide +kernel
theorem d_D_recover_86 : decode b_D_recover 86 = .ok (.ireturn, 1) := by decide +kernel
abbrev b_D_change : ByteArray := prog_1_method_7_code
def y_D_change : MethodName := ⟨R_D, "change", "(III)I"⟩
abbrev w_D_change : List Cond := .code y_D_change b_D_change 5 (some .int) :: ew_T
theorem g_D_change : GoodIn ew_T w_D_change := ew_good ew_318
theorem d_D_change_0 : decode b_D_change 0 = .ok (.aload_n 0, 1) := by decide +kernel
theorem d_D_change_1 : decode b_D_change 1 = .ok (.getfield 23, 3) := by decide +kernel
theorem d_D_change_4 : decode b_D_change 4 = .ok (.getfield 62, 3) := by decide +kernel
theorem d_D_change_7 : decode b_D_change 7 = .ok (.ifCond .eq 13, 3) := by decide +kernel
theorem d_D_change_10 : decode b_D_change 10 = .ok (.new 70, 3) := by decide +kernel
theorem d_D_change_13 : decode b_D_change 13 = .ok (.dup, 1) := by decide +kernel
theorem d_D_change_14 : decode b_D_change 14 = .ok (.ldc 86, 2) := by decide +kernel
theorem d_D_change_16 : decode b_D_change 16 = .ok (.invokespecial 74, 3) := by decide +kernel
theorem d_D_change_19 : decode b_D_change 19 = .ok (.athrow, 1) := by decide +kernel
theorem d_D_change_20 : decode b_D_change 20 = .ok (.aload_n 0, 1) := by decide +kernel
theorem d_D_change_21 : decode b_D_change 21 = .ok (.getfield 52, 3) := by decide +kernel
theorem d_D_change_24 : decode b_D_change 24 = .ok (.aload_n 0, 1) := by decide +kernel
theorem d_D_change_25 : decode b_D_change 25 = .ok (.getfield 48, 3) := by decide +kernel
theorem d_D_change_28 : decode b_D_change 28 = .ok (.iload_n 2, 1) := by decide +kernel
theorem d_D_change_29 : decode b_D_change 29 = .ok (.iload_n 3, 1) := by decide +kernel
theorem d_D_change_30 : decode b_D_change 30 = .ok (.invokevirtual 93, 3) := by decide +kernel
theorem d_D_change_33 : decode b_D_change 33 = .ok (.aload_n 0, 1) := by decide +kernel
theorem d_D_change_34 : decode b_D_change 34 = .ok (.getfield 52, 3) := by decide +kernel
theorem d_D_change_37 : decode b_D_change 37 = .ok (.aload_n 0, 1) := by decide +kernel
theorem d_D_change_38 : decode b_D_change 38 = .ok (.getfield 34, 3) := by decide +kernel
theorem d_D_change_41 : decode b_D_change 41 = .ok (.invokevirtual 97, 3) := by decide +kernel
theorem d_D_change_44 : decode b_D_change 44 = .ok (.iconst (-1), 1) := by decide +kernel
theorem d_D_change_45 : decode b_D_change 45 = .ok (.istore 4, 2) := by decide +kernel
theorem d_D_change_47 : decode b_D_change 47 = .ok (.aload_n 0, 1) := by decide +kernel
theorem d_D_change_48 : decode b_D_change 48 = .ok (.getfield 30, 3) := by decide +kernel
theorem d_D_change_51 : decode b_D_change 51 = .ok (.getfield 79, 3) := by decide +kernel
theorem d_D_change_54 : decode b_D_change 54 = .ok (.ifCond .le 48, 3) := by decide +kernel
theorem d_D_change_57 : decode b_D_change 57 = .ok (.aload_n 0, 1) := by decide +kernel
theorem d_D_change_58 : decode b_D_change 58 = .ok (.aload_n 0, 1) := by decide +kernel
theorem d_D_change_59 : decode b_D_change 59 = .ok (.getfield 30, 3) := by decide +kernel
theorem d_D_change_62 : decode b_D_change 62 = .ok (.getfield 79, 3) := by decide +kernel
theorem d_D_change_65 : decode b_D_change 65 = .ok (.invokestatic 101, 3) := by decide +kernel
theorem d_D_change_68 : decode b_D_change 68 = .ok (.invokevirtual 105, 3) := by decide +kernel
theorem d_D_change_71 : decode b_D_change 71 = .ok (.istore 4, 2) := by decide +kernel
theorem d_D_change_73 : decode b_D_change 73 = .ok (.iload 4, 2) := by decide +kernel
theorem d_D_change_75 : decode b_D_change 75 = .ok (.iconst (-1), 1) := by decide +kernel
theorem d_D_change_76 : decode b_D_change 76 = .ok (.if_icmp .eq 23, 3) := by decide +kernel
theorem d_D_change_79 : decode b_D_change 79 = .ok (.aload_n 0, 1) := by decide +kernel
theorem d_D_change_80 : decode b_D_change 80 = .ok (.getfield 52, 3) := by decide +kernel
theorem d_D_change_83 : decode b_D_change 83 = .ok (.iload_n 1, 1) := by decide +kernel
theorem d_D_change_84 : decode b_D_change 84 = .ok (.iload 4, 2) := by decide +kernel
theorem d_D_change_86 : decode b_D_change 86 = .ok (.aload_n 0, 1) := by decide +kernel
theorem d_D_change_87 : decode b_D_change 87 = .ok (.getfield 30, 3) := by decide +kernel
theorem d_D_change_90 : decode b_D_change 90 = .ok (.getfield 79, 3) := by decide +kernel
theorem d_D_change_93 : decode b_D_change 93 = .ok (.invokevirtual 108, 3) := by decide +kernel
theorem d_D_change_96 : decode b_D_change 96 = .ok (.ifCond .ne 6, 3) := by decide +kernel
theorem d_D_change_99 : decode b_D_change 99 = .ok (.bipush (-2), 2) := by decide +kernel
theorem d_D_change_101 : decode b_D_change 101 = .ok (.ireturn, 1) := by decide +kernel
theorem d_D_change_102 : decode b_D_change 102 = .ok (.aload_n 0, 1) := by decide +kernel
theorem d_D_change_103 : decode b_D_change 103 = .ok (.iload 4, 2) := by decide +kernel
theorem d_D_change_105 : decode b_D_change 105 = .ok (.invokevirtual 112, 3) := by decide +kernel
theorem d_D_change_108 : decode b_D_change 108 = .ok (.ireturn, 1) := by decide +kernel
abbrev b_Tp_init : ByteArray := prog_4_method_1_code
def y_Tp_init : MethodName := ⟨R_Tp, "<init>", "(I)V"⟩
abbrev w_Tp_init : List Cond := .code y_Tp_init b_Tp_init 2 none :: ew_T
theorem g_Tp_init : GoodIn ew_T w_Tp_init := ew_good ew_66
theorem d_Tp_init_0 : decode b_Tp_init 0 = .ok (.aload_n 0, 1) := by decide +kernel
theorem d_Tp_init_1 : decode b_Tp_init 1 = .ok (.invokespecial 3, 3) := by decide +kernel
theorem d_Tp_init_4 : decode b_Tp_init 4 = .ok (.aload_n 0, 1) := by decide +kernel
theorem d_Tp_init_5 : decode b_Tp_init 5 = .ok (.iload_n 1, 1) := by decide +kernel
theorem d_Tp_init_6 : decode b_Tp_init 6 = .ok (.sipush 4096, 3) := by decide +kernel
theorem d_Tp_init_9 : decode b_Tp_init 9 = .ok (.imul, 1) := by decide +kernel
theorem d_Tp_init_10 : decode b_Tp_init 10 = .ok (.newarray .byte, 2) := by decide +kernel
theorem d_Tp_init_12 : decode b_Tp_init 12 = .ok (.putfield 9, 3) := by decide +kernel
theorem d_Tp_init_15 : decode b_Tp_init 15 = .ok (.return_, 1) := by decide +kernel
abbrev b_P_init : ByteArray := prog_3_method_1_code
def y_P_init : MethodName := ⟨R_P, "<init>", "(I)V"⟩
abbrev w_P_init : List Cond := .code y_P_init b_P_init 2 none :: ew_T
theorem g_P_init : GoodIn ew_T w_P_init := ew_good ew_44
theorem d_P_init_0 : decode b_P_init 0 = .ok (.aload_n 0, 1) := by decide +kernel
theorem d_P_init_1 : decode b_P_init 1 = .ok (.invokespecial 3, 3) := by decide +kernel
theorem d_P_init_4 : decode b_P_init 4 = .ok (.aload_n 0, 1) := by decide +kernel
theorem d_P_init_5 : decode b_P_init 5 = .ok (.iload_n 1, 1) := by decide +kernel
theorem d_P_init_6 : decode b_P_init 6 = .ok (.sipush 4096, 3) := by decide +kernel
theorem d_P_init_9 : decode b_P_init 9 = .ok (.imul, 1) := by decide +kernel
theorem d_P_init_10 : decode b_P_init 10 = .ok (.newarray .byte, 2) := by decide +kernel
theorem d_P_init_12 : decode b_P_init 12 = .ok (.putfield 9, 3) := by decide +kernel
theorem d_P_init_15 : decode b_P_init 15 = .ok (.aload_n 0, 1) := by decide +kernel
theorem d_P_init_16 : decode b_P_init 16 = .ok (.iconst (-1), 1) := by decide +kernel
theorem d_P_init_17 : decode b_P_init 17 = .ok (.putfield 15, 3) := by decide +kernel
theorem d_P_init_20 : decode b_P_init 20 = .ok (.return_, 1) := by decide +kernel
abbrev b_M_init : ByteArray := prog_2_method_1_code
def y_M_init : MethodName := ⟨R_M, "<init>", "()V"⟩
abbrev w_M_init : List Cond := .code y_M_init b_M_init 1 none :: ew_T
theorem g_M_init : GoodIn ew_T w_M_init := ew_good ew_81
theorem d_M_init_0 : decode b_M_init 0 = .ok (.aload_n 0, 1) := by decide +kernel
theorem d_M_init_1 : decode b_M_init 1 = .ok (.invokespecial 5, 3) := by decide +kernel
theorem d_M_init_4 : decode b_M_init 4 = .ok (.aload_n 0, 1) := by decide +kernel
theorem d_M_init_5 : decode b_M_init 5 = .ok (.sipush 200, 3) := by decide +kernel
theorem d_M_init_8 : decode b_M_init 8 = .ok (.newarray .int, 2) := by decide +kernel
theorem d_M_init_10 : decode b_M_init 10 = .ok (.putfield 11, 3) := by decide +kernel
theorem d_M_init_13 : decode b_M_init 13 = .ok (.aload_n 0, 1) := by decide +kernel
theorem d_M_init_14 : decode b_M_init 14 = .ok (.sipush 200, 3) := by decide +kernel
theorem d_M_init_17 : decode b_M_init 17 = .ok (.newarray .int, 2) := by decide +kernel
theorem d_M_init_19 : decode b_M_init 19 = .ok (.putfield 15, 3) := by decide +kernel
theorem d_M_init_22 : decode b_M_init 22 = .ok (.aload_n 0, 1) := by decide +kernel
theorem d_M_init_23 : decode b_M_init 23 = .ok (.sipush 200, 3) := by decide +kernel
theorem d_M_init_26 : decode b_M_init 26 = .ok (.newarray .int, 2) := by decide +kernel
theorem d_M_init_28 : decode b_M_init 28 = .ok (.putfield 18, 3) := by decide +kernel
theorem d_M_init_31 : decode b_M_init 31 = .ok (.aload_n 0, 1) := by decide +kernel
theorem d_M_init_32 : decode b_M_init 32 = .ok (.bipush 24, 2) := by decide +kernel
theorem d_M_init_34 : decode b_M_init 34 = .ok (.newarray .int, 2) := by decide +kernel
theorem d_M_init_36 : decode b_M_init 36 = .ok (.putfield 21, 3) := by decide +kernel
theorem d_M_init_39 : decode b_M_init 39 = .ok (.return_, 1) := by decide +kernel
abbrev b_D_init : ByteArray := prog_1_method_1_code
def y_D_init : MethodName := ⟨R_D, "<init>", "(I)V"⟩
abbrev w_D_init : List Cond := .code y_D_init b_D_init 3 none :: ew_T
theorem g_D_init : GoodIn ew_T w_D_init := ew_good ew_30
theorem d_D_init_0 : decode b_D_init 0 = .ok (.aload_n 0, 1) := by decide +kernel
theorem d_D_init_1 : decode b_D_init 1 = .ok (.invokespecial 1, 3) := by decide +kernel
theorem d_D_init_4 : decode b_D_init 4 = .ok (.bipush 8, 2) := by decide +kernel
theorem d_D_init_6 : decode b_D_init 6 = .ok (.sipush 128, 3) := by decide +kernel
theorem d_D_init_9 : decode b_D_init 9 = .ok (.iload_n 1, 1) := by decide +kernel
theorem d_D_init_10 : decode b_D_init 10 = .ok (.invokestatic 9, 3) := by decide +kernel
theorem d_D_init_13 : decode b_D_init 13 = .ok (.invokestatic 15, 3) := by decide +kernel
theorem d_D_init_16 : decode b_D_init 16 = .ok (.istore_n 2, 1) := by decide +kernel
theorem d_D_init_17 : decode b_D_init 17 = .ok (.aload_n 0, 1) := by decide +kernel
theorem d_D_init_18 : decode b_D_init 18 = .ok (.new 18, 3) := by decide +kernel
theorem d_D_init_21 : decode b_D_init 21 = .ok (.dup, 1) := by decide +kernel
theorem d_D_init_22 : decode b_D_init 22 = .ok (.iload_n 2, 1) := by decide +kernel
theorem d_D_init_23 : decode b_D_init 23 = .ok (.invokespecial 20, 3) := by decide +kernel
theorem d_D_init_26 : decode b_D_init 26 = .ok (.putfield 23, 3) := by decide +kernel
theorem d_D_init_29 : decode b_D_init 29 = .ok (.aload_n 0, 1) := by decide +kernel
theorem d_D_init_30 : decode b_D_init 30 = .ok (.new 27, 3) := by decide +kernel
theorem d_D_init_33 : decode b_D_init 33 = .ok (.dup, 1) := by decide +kernel
theorem d_D_init_34 : decode b_D_init 34 = .ok (.iload_n 2, 1) := by decide +kernel
theorem d_D_init_35 : decode b_D_init 35 = .ok (.invokespecial 29, 3) := by decide +kernel
theorem d_D_init_38 : decode b_D_init 38 = .ok (.putfield 30, 3) := by decide +kernel
theorem d_D_init_41 : decode b_D_init 41 = .ok (.aload_n 0, 1) := by decide +kernel
theorem d_D_init_42 : decode b_D_init 42 = .ok (.bipush 24, 2) := by decide +kernel
theorem d_D_init_44 : decode b_D_init 44 = .ok (.newarray .int, 2) := by decide +kernel
theorem d_D_init_46 : decode b_D_init 46 = .ok (.putfield 34, 3) := by decide +kernel
theorem d_D_init_49 : decode b_D_init 49 = .ok (.aload_n 0, 1) := by decide +kernel
theorem d_D_init_50 : decode b_D_init 50 = .ok (.sipush 4096, 3) := by decide +kernel
theorem d_D_init_53 : decode b_D_init 53 = .ok (.newarray .byte, 2) := by decide +kernel
theorem d_D_init_55 : decode b_D_init 55 = .ok (.putfield 38, 3) := by decide +kernel
theorem d_D_init_58 : decode b_D_init 58 = .ok (.aload_n 0, 1) := by decide +kernel
theorem d_D_init_59 : decode b_D_init 59 = .ok (.iload_n 2, 1) := by decide +kernel
theorem d_D_init_60 : decode b_D_init 60 = .ok (.newarray .int, 2) := by decide +kernel
theorem d_D_init_62 : decode b_D_init 62 = .ok (.putfield 42, 3) := by decide +kernel
theorem d_D_init_65 : decode b_D_init 65 = .ok (.aload_n 0, 1) := by decide +kernel
theorem d_D_init_66 : decode b_D_init 66 = .ok (.new 45, 3) := by decide +kernel
theorem d_D_init_69 : decode b_D_init 69 = .ok (.dup, 1) := by decide +kernel
theorem d_D_init_70 : decode b_D_init 70 = .ok (.invokespecial 47, 3) := by decide +kernel
theorem d_D_init_73 : decode b_D_init 73 = .ok (.putfield 48, 3) := by decide +kernel
theorem d_D_init_76 : decode b_D_init 76 = .ok (.aload_n 0, 1) := by decide +kernel
theorem d_D_init_77 : decode b_D_init 77 = .ok (.new 45, 3) := by decide +kernel
theorem d_D_init_80 : decode b_D_init 80 = .ok (.dup, 1) := by decide +kernel
theorem d_D_init_81 : decode b_D_init 81 = .ok (.invokespecial 47, 3) := by decide +kernel
theorem d_D_init_84 : decode b_D_init 84 = .ok (.putfield 52, 3) := by decide +kernel
theorem d_D_init_87 : decode b_D_init 87 = .ok (.return_, 1) := by decide +kernel
end
section
/-! words that are no good words, and the texts: one bundle for all methods -/
abbrev ex_n1 : Cond := .methodLinkNest "ExtentDisk" 47 ⟨"ExtentDisk$Manifest", "<init>", "()V"⟩ "ExtentDisk"
abbrev ex_n2 : Cond := .methodLinkNest "ExtentDisk$Manifest" 44 ⟨"ExtentDisk", "blocksFor", "(I)I"⟩ "ExtentDisk"
abbrev ex_cA : Cond := .castable "java/lang/IllegalArgumentException" "java/lang/IllegalArgumentException"
abbrev ex_cS : Cond := .castable "java/lang/IllegalStateException" "java/lang/IllegalStateException"
abbrev ex_dR : Cond := .declares ⟨"java/lang/RuntimeException", "<init>", "(Ljava/lang/String;)V"⟩
abbrev ex_dE : Cond := .declares ⟨"java/lang/Exception", "<init>", "(Ljava/lang/String;)V"⟩
abbrev ex_dT : Cond := .declares ⟨"java/lang/Throwable", "<init>", "(Ljava/lang/String;)V"⟩
def ex_strs : List (Nat × String) := [(57, "n is not 1 .. 8"), (72, "the store is down, or the tape has no room"), (84, "n is not 1 .. 100000"), (86, "the store is down"), (88, "i is not 0 .. 23"), (118, "there is no such extent"), (129, "what is not 0 .. 3"), (131, "there is no such byte"), (136, "n is not NONE .. 1000")]
def ex_G (U : State) : Prop := va_Nw ex_n1 U ∧ va_Nw ex_n2 U ∧ va_Nw ex_cA U ∧ va_Nw ex_cS U ∧ va_Nw ex_dR U ∧ va_Nw ex_dE U ∧ va_Nw ex_dT U ∧ ∀ q ∈ ex_strs, ∃ a : Nat, vk_R "ExtentDisk" q.1 q.2 a U
theorem ex_G.warm {s U : State} (hW : s.WarmedH U.vm) (h : ex_G s) : ex_G U := by
  obtain ⟨h1, h2, h3, h4, h5, h6, h7, h8⟩ := h
  exact ⟨va_Nw.warmM hW h1, va_Nw.warmM hW h2, va_Nw.warmC hW h3, va_Nw.warmC hW h4, va_Nw.warmD hW h5, va_Nw.warmD hW h6, va_Nw.warmD hW h7, fun q hq => by
    obtain ⟨a, ha⟩ := h8 q hq
    exact ⟨a, vk_R.warm hW ha⟩⟩
theorem ex_G.same {u U : State} (hv : U.vm = u.vm) (h : ex_G u) : ex_G U := by
  obtain ⟨h1, h2, h3, h4, h5, h6, h7, h8⟩ := h
  exact ⟨va_Nw.same rfl hv.symm h1, va_Nw.same rfl hv.symm h2, va_Nw.same rfl hv.symm h3, va_Nw.same rfl hv.symm h4, va_Nw.same rfl hv.symm h5, va_Nw.same rfl hv.symm h6, va_Nw.same rfl hv.symm h7, fun q hq => by
    obtain ⟨a, ha⟩ := h8 q hq
    exact ⟨a, vk_R.same hv ha⟩⟩
theorem ex_nest_R_D_47 {s : State} (h : ex_G s) : va_Nw (.methodLinkNest R_D 47 y_M_init "ExtentDisk") s := h.1
theorem ex_nest_R_M_44 {s : State} (h : ex_G s) : va_Nw (.methodLinkNest R_M 44 y_D_blocksFor "ExtentDisk") s := h.2.1
theorem ex_str {s : State} (h : ex_G s) {k : Nat} {t : String} (hk : (k, t) ∈ ex_strs) : ∃ a : Nat, vk_R R_D k t a s := h.2.2.2.2.2.2.2 (k, t) hk
abbrev ex_atA : List Cond := vx_atS R_D 59 "java/lang/IllegalArgumentException" ["java/lang/RuntimeException", "java/lang/Exception"]
abbrev ex_atI : List Cond := vx_atS R_D 74 "java/lang/IllegalStateException" ["java/lang/RuntimeException", "java/lang/Exception"]
theorem ex_inA : ∀ w ∈ ex_atA.filter goodWord, w ∈ ew_T := by decide +kernel
theorem ex_inI : ∀ w ∈ ex_atI.filter goodWord, w ∈ ew_T := by decide +kernel
theorem ex_hatA {args : Array Value} {s : State} (hG : ex_G s) (hts : ∀ w ∈ ew_T, w.before args s = true) : ∀ w ∈ ex_atA, w.before args s = true :=
  vx_hat (L := ex_atA) (B := [ex_cA, ex_dR, ex_dE, ex_dT]) (fun w hw => hts w (ex_inA w hw)) (by decide +kernel) (vx_c (va_Nw.use rfl hG.2.2.1) (vx_c (va_Nw.use rfl hG.2.2.2.2.1) (vx_c (va_Nw.use rfl hG.2.2.2.2.2.1) (vx_c (va_Nw.use rfl hG.2.2.2.2.2.2.1) vx_n))))
theorem ex_hatS {args : Array Value} {s : State} (hG : ex_G s) (hts : ∀ w ∈ ew_T, w.before args s = true) : ∀ w ∈ ex_atI, w.before args s = true :=
  vx_hat (L := ex_atI) (B := [ex_cS, ex_dR, ex_dE, ex_dT]) (fun w hw => hts w (ex_inI w hw)) (by decide +kernel) (vx_c (va_Nw.use rfl hG.2.2.2.1) (vx_c (va_Nw.use rfl hG.2.2.2.2.1) (vx_c (va_Nw.use rfl hG.2.2.2.2.2.1) (vx_c (va_Nw.use rfl hG.2.2.2.2.2.2.1) vx_n))))
theorem ex_goodA : ∀ w ∈ Cond.classLink R_D 55 "java/lang/IllegalArgumentException" :: Cond.initialized "java/lang/IllegalArgumentException" :: ex_atA, vx_ot w = true := by decide +kernel
theorem ex_goodS : ∀ w ∈ Cond.classLink R_D 70 "java/lang/IllegalStateException" :: Cond.initialized "java/lang/IllegalStateException" :: ex_atI, vx_ot w = true := by decide +kernel
end
section
/-! my own base: contracts over a list of cells, with one table of array classes; calls with the frame rule inside -/
def ey_ushr (x y : Int32) : Int32 := (x.toUInt32 >>> (y.toUInt32 &&& Int32.toUInt32 31)).toInt32
def ey_lushr (x : Int64) (y : Int32) : Int64 := (x.toUInt64 >>> (y.toInt64.toUInt64 &&& Int64.toUInt64 63)).toInt64
def ey_lshl (x : Int64) (y : Int32) : Int64 := x <<< (y.toInt64 &&& 63)
abbrev ey_kt (cI cB cJ cZ : ClassId) : List (ClassId × FieldType) := [(cI, .int), (cB, .byte), (cJ, .long), (cZ, .boolean)]
def ey_Pre (D : va_G) (cl : List vw_C) (kt : List (ClassId × FieldType)) (W9 : va_W) (sz : Nat) (U : State) : Prop :=
  U.heap.size = sz ∧ va_P D cl W9 U.heap ∧ va_K D cl kt U ∧ ex_G U ∧ va_D (fun _ => True) W9
def ey_Post (D : va_G) (cl : List vw_C) (A : Nat → Prop) (W9 : va_W) (t : State) : Prop := va_P D cl W9 t.heap ∧ va_D A W9
def ey_Mi (l : Launch) (y : MethodName) (ws : List Cond) (rm : Room) (D : va_G) (cl : List vw_C) (kt : List (ClassId × FieldType)) (av : List Value) (W0 : va_W) {S : Type} (post : Int32 → S → Prop) (W1 : S → va_W) (mc ms : Nat) : Prop :=
  ∀ sz : Nat, Met l y ws rm (va_Pc av (ey_Pre D cl kt W0 sz)) (va_Qi post (fun u t => ey_Post D cl (va_A W0 sz) (W1 u) t) (va_A W0 sz)) mc ms (va_A W0 sz)
def ey_Mv (l : Launch) (y : MethodName) (ws : List Cond) (rm : Room) (D : va_G) (cl : List vw_C) (kt : List (ClassId × FieldType)) (av : List Value) (W0 : va_W) {S : Type} (post : S → Prop) (W1 : S → va_W) (mc ms : Nat) : Prop :=
  ∀ sz : Nat, Met l y ws rm (va_Pc av (ey_Pre D cl kt W0 sz)) (va_Qv post (fun u t => ey_Post D cl (va_A W0 sz) (W1 u) t) (va_A W0 sz)) mc ms (va_A W0 sz)
theorem ey_blind {D : va_G} {cl : List vw_C} {kt : List (ClassId × FieldType)} {W9 : va_W} {sz : Nat} {av : List Value} : FrameBlind (va_Pc av (ey_Pre D cl kt W9 sz)) := fun a U g mk q => by
  obtain ⟨q0, q1, qP, qK, qG, qD⟩ := q
  exact ⟨q0, q1, qP, va_K.moved (u := U) (U := U.calling g mk a) (Vm.Alike.refl U.vm) qK, ex_G.same (u := U) (U := U.calling g mk a) rfl qG, qD⟩
theorem ey_pick {ws wc : va_W} {is : List Nat} (h : is.map (fun i => ws[i]?) = wc.map some) (k : Nat) (q : Nat × va_E) (hq : wc[k]? = some q) : ∃ i, is[k]? = some i ∧ ws[i]? = some q := by
  have h1 : (is.map (fun i => ws[i]?))[k]? = some (some q) := by rw [h, List.getElem?_map, hq]; rfl
  rw [List.getElem?_map] at h1
  cases hi : is[k]? with
  | none => rw [hi] at h1; cases h1
  | some i => rw [hi] at h1; exact ⟨i, rfl, Option.some.inj h1⟩
theorem ey_P {D : va_G} {cl : List vw_C} {ws wc : va_W} {H : Heap} {is : List Nat} (hP : va_P D cl ws H) (h : is.map (fun i => ws[i]?) = wc.map some) : va_P D cl wc H := fun k q hq => by
  obtain ⟨i, -, hi⟩ := ey_pick h k q hq
  exact hP i q hi
/-- two array classes of one primitive type are one -/
theorem ey_sameA {D : va_G} {cl : List vw_C} {tys : List (ClassId × FieldType)} {s : State} {k1 k2 : Nat} {c1 c2 : ClassId} {ty : FieldType} (hK : va_K D cl tys s) (h1 : tys[k1]? = some (c1, ty)) (h2 : tys[k2]? = some (c2, ty)) (hp : refKind ty = false := by rfl) : c2 = c1 := by
  have a1 := (hK.2 k1 _ h1).2
  have a2 := (hK.2 k2 _ h2).2
  cases ty with
  | object C => cases hp
  | _ => exact Option.some.inj (Eq.trans (Eq.symm a2) a1)
section EYC
variable {p : Program} {l : Launch} {e : Env} {R : Room} {s : State} {m : MethodId} {args : Array Value} {below : List Frame} {meth : Method} {c : Code} {H : Heap} {locs : List Loc} {cells slots : Nat} {Q : State → Prop}
variable {cc bytes : ByteArray} {nL maxL mc ms n index pc : Nat} {ret : Option FieldType} {wy : List Cond} {rm : Room} {Ts : List Cond} {own C host : String} {y : MethodName} {b : Nat} {As rest st0 : List Value} {ls : Array Slot}
variable {D : va_G} {cl : List vw_C} {kt : List (ClassId × FieldType)} {ws Wc wr : va_W} {A : Nat → Prop} {S : Type} {postI : Int32 → S → Prop} {postV : S → Prop} {W1 : S → va_W}
theorem ey_Vi (F : CallFix p m c cc nL s args Ts own) (hM : ey_Mi l y wy rm D cl kt (.ref b :: As) Wc postI W1 mc ms) (cw : CallW R s args own C index y bytes maxL ret wy rm mc ms n)
    (hK : va_K D cl kt s) (hG : ex_G s) (hP : va_P D cl ws H) (hD : va_D A ws) (hS : va_S A s.heap H locs) (hA : ∀ q, s.heap.size ≤ q → A q) (isC isR : List Nat) (hC : isC.map (fun i => ws[i]?) = Wc.map some) (hR : isR.map (fun i => ws[i]?) = wr.map some) (hnd : va_nd isC = true) (hnr : va_nd isR = true) (hdis : ∀ i ∈ isR, i ∉ isC)
    {ci q0 N : Nat} {T : u_T} {fs : List Value} (hci : cl[ci]? = some (C, T, N)) (hq : Wc[q0]? = some (b, .inr (ci, fs))) (hn : As.length = n) (hsz : ls.size = nL) (hst : st0 = As.reverse ++ .ref b :: rest) (hW : (rest.map fun v => v.category).sum ≤ 8) (hdg : decode cc pc = .ok (.invokevirtual index, 3)) (hf : cells + mc ≤ R.cells ∧ slots + ms ≤ R.slots)
    (kk : ∀ (r : Int32) (u : S) (H1 : Heap) (locs1 : List Loc), postI r u → va_P D cl (wr ++ W1 u) H1 → va_D A (wr ++ W1 u) → va_S A s.heap H1 locs1 → W p l e R s m args below meth c H1 locs1 (cells + mc) (slots + ms) Q (F0 m (pc + 3) ls (.int r :: rest))) : W p l e R s m args below meth c H locs cells slots Q (F0 m pc ls st0) := by
  have hPc := ey_P hP hC
  have hDc := hD.sub isC hnd hC
  have hFc := va_free hD hS hA isC hC
  refine va_calli (va_runV (As := As) (rest := rest) F (hM H.size) cw ⟨ey_blind, va_recv hK hPc hci hq, fun U hU hW9 => ⟨rfl, by rw [hU], by rw [hU]; exact hPc, va_K.moved hW9.alike hK, ex_G.warm hW9 hG, hDc.weaken (fun _ _ _ _ => trivial)⟩⟩ rfl hn hsz hst (lv_room hW) hdg hf) hS (fun q _ h => hFc q h) hFc (fun r u t H1 locs1 ht hvm hw hB hz1 hk1 hS1 => ?_)
  obtain ⟨hP1, hD1⟩ := hB
  rw [ht] at hP1
  obtain ⟨hP2, hD2⟩ := va_join hP hD isC isR hC hR hnr hdis hk1 hFc hP1 hD1
  exact kk r u H1 locs1 hw hP2 hD2 hS1
theorem ey_Vv (F : CallFix p m c cc nL s args Ts own) (hM : ey_Mv l y wy rm D cl kt (.ref b :: As) Wc postV W1 mc ms) (cw : CallW R s args own C index y bytes maxL ret wy rm mc ms n)
    (hK : va_K D cl kt s) (hG : ex_G s) (hP : va_P D cl ws H) (hD : va_D A ws) (hS : va_S A s.heap H locs) (hA : ∀ q, s.heap.size ≤ q → A q) (isC isR : List Nat) (hC : isC.map (fun i => ws[i]?) = Wc.map some) (hR : isR.map (fun i => ws[i]?) = wr.map some) (hnd : va_nd isC = true) (hnr : va_nd isR = true) (hdis : ∀ i ∈ isR, i ∉ isC)
    {ci q0 N : Nat} {T : u_T} {fs : List Value} (hci : cl[ci]? = some (C, T, N)) (hq : Wc[q0]? = some (b, .inr (ci, fs))) (hn : As.length = n) (hsz : ls.size = nL) (hst : st0 = As.reverse ++ .ref b :: rest) (hW : (rest.map fun v => v.category).sum ≤ 8) (hdg : decode cc pc = .ok (.invokevirtual index, 3)) (hf : cells + mc ≤ R.cells ∧ slots + ms ≤ R.slots)
    (kk : ∀ (u : S) (H1 : Heap) (locs1 : List Loc), postV u → va_P D cl (wr ++ W1 u) H1 → va_D A (wr ++ W1 u) → va_S A s.heap H1 locs1 → W p l e R s m args below meth c H1 locs1 (cells + mc) (slots + ms) Q (F0 m (pc + 3) ls rest)) : W p l e R s m args below meth c H locs cells slots Q (F0 m pc ls st0) := by
  have hPc := ey_P hP hC
  have hDc := hD.sub isC hnd hC
  have hFc := va_free hD hS hA isC hC
  refine va_callv (va_runV (As := As) (rest := rest) F (hM H.size) cw ⟨ey_blind, va_recv hK hPc hci hq, fun U hU hW9 => ⟨rfl, by rw [hU], by rw [hU]; exact hPc, va_K.moved hW9.alike hK, ex_G.warm hW9 hG, hDc.weaken (fun _ _ _ _ => trivial)⟩⟩ rfl hn hsz hst (lv_room hW) hdg hf) hS (fun q _ h => hFc q h) hFc (fun u t H1 locs1 ht hvm hw hB hz1 hk1 hS1 => ?_)
  obtain ⟨hP1, hD1⟩ := hB
  rw [ht] at hP1
  obtain ⟨hP2, hD2⟩ := va_join hP hD isC isR hC hR hnr hdis hk1 hFc hP1 hD1
  exact kk u H1 locs1 hw hP2 hD2 hS1
theorem ey_Si (F : CallFix p m c cc nL s args Ts own) (hM : ey_Mi l y wy rm D cl kt As Wc postI W1 mc ms) (cw : CallB R s args own index y bytes maxL ret wy rm mc ms n ∧ (Cond.static y).before args s = true)
    (hK : va_K D cl kt s) (hG : ex_G s) (hP : va_P D cl ws H) (hD : va_D A ws) (hS : va_S A s.heap H locs) (hA : ∀ q, s.heap.size ≤ q → A q) (isC isR : List Nat) (hC : isC.map (fun i => ws[i]?) = Wc.map some) (hR : isR.map (fun i => ws[i]?) = wr.map some) (hnd : va_nd isC = true) (hnr : va_nd isR = true) (hdis : ∀ i ∈ isR, i ∉ isC)
    (hn : As.length = n) (hsz : ls.size = nL) (hst : st0 = As.reverse ++ rest) (hW : (rest.map fun v => v.category).sum ≤ 8) (hdg : decode cc pc = .ok (.invokestatic index, 3)) (hf : cells + mc ≤ R.cells ∧ slots + ms ≤ R.slots)
    (kk : ∀ (r : Int32) (u : S) (H1 : Heap) (locs1 : List Loc), postI r u → va_P D cl (wr ++ W1 u) H1 → va_D A (wr ++ W1 u) → va_S A s.heap H1 locs1 → W p l e R s m args below meth c H1 locs1 (cells + mc) (slots + ms) Q (F0 m (pc + 3) ls (.int r :: rest))) : W p l e R s m args below meth c H locs cells slots Q (F0 m pc ls st0) := by
  have hPc := ey_P hP hC
  have hDc := hD.sub isC hnd hC
  have hFc := va_free hD hS hA isC hC
  refine va_calli (va_runS (As := As) (rest := rest) F (hM H.size) cw ⟨ey_blind, fun U hU hW9 => ⟨rfl, by rw [hU], by rw [hU]; exact hPc, va_K.moved hW9.alike hK, ex_G.warm hW9 hG, hDc.weaken (fun _ _ _ _ => trivial)⟩⟩ rfl hn hsz hst (lv_room hW) hdg hf) hS (fun q _ h => hFc q h) hFc (fun r u t H1 locs1 ht hvm hw hB hz1 hk1 hS1 => ?_)
  obtain ⟨hP1, hD1⟩ := hB
  rw [ht] at hP1
  obtain ⟨hP2, hD2⟩ := va_join hP hD isC isR hC hR hnr hdis hk1 hFc hP1 hD1
  exact kk r u H1 locs1 hw hP2 hD2 hS1
theorem ey_Sv (F : CallFix p m c cc nL s args Ts own) (hM : ey_Mv l y wy rm D cl kt As Wc postV W1 mc ms) (cw : CallB R s args own index y bytes maxL ret wy rm mc ms n ∧ (Cond.static y).before args s = true)
    (hK : va_K D cl kt s) (hG : ex_G s) (hP : va_P D cl ws H) (hD : va_D A ws) (hS : va_S A s.heap H locs) (hA : ∀ q, s.heap.size ≤ q → A q) (isC isR : List Nat) (hC : isC.map (fun i => ws[i]?) = Wc.map some) (hR : isR.map (fun i => ws[i]?) = wr.map some) (hnd : va_nd isC = true) (hnr : va_nd isR = true) (hdis : ∀ i ∈ isR, i ∉ isC)
    (hn : As.length = n) (hsz : ls.size = nL) (hst : st0 = As.reverse ++ rest) (hW : (rest.map fun v => v.category).sum ≤ 8) (hdg : decode cc pc = .ok (.invokestatic index, 3)) (hf : cells + mc ≤ R.cells ∧ slots + ms ≤ R.slots)
    (kk : ∀ (u : S) (H1 : Heap) (locs1 : List Loc), postV u → va_P D cl (wr ++ W1 u) H1 → va_D A (wr ++ W1 u) → va_S A s.heap H1 locs1 → W p l e R s m args below meth c H1 locs1 (cells + mc) (slots + ms) Q (F0 m (pc + 3) ls rest)) : W p l e R s m args below meth c H locs cells slots Q (F0 m pc ls st0) := by
  have hPc := ey_P hP hC
  have hDc := hD.sub isC hnd hC
  have hFc := va_free hD hS hA isC hC
  refine va_callv (va_runS (As := As) (rest := rest) F (hM H.size) cw ⟨ey_blind, fun U hU hW9 => ⟨rfl, by rw [hU], by rw [hU]; exact hPc, va_K.moved hW9.alike hK, ex_G.warm hW9 hG, hDc.weaken (fun _ _ _ _ => trivial)⟩⟩ rfl hn hsz hst (lv_room hW) hdg hf) hS (fun q _ h => hFc q h) hFc (fun u t H1 locs1 ht hvm hw hB hz1 hk1 hS1 => ?_)
  obtain ⟨hP1, hD1⟩ := hB
  rw [ht] at hP1
  obtain ⟨hP2, hD2⟩ := va_join hP hD isC isR hC hR hnr hdis hk1 hFc hP1 hD1
  exact kk u H1 locs1 hw hP2 hD2 hS1
theorem ey_SNi (F : CallFix p m c cc nL s args Ts own) (hM : ey_Mi l y wy rm D cl kt As Wc postI W1 mc ms) (cw : va_CN R s args own index y host bytes maxL ret wy rm mc ms n) (hst9 : (Cond.static y).before args s = true)
    (hK : va_K D cl kt s) (hG : ex_G s) (hP : va_P D cl ws H) (hD : va_D A ws) (hS : va_S A s.heap H locs) (hA : ∀ q, s.heap.size ≤ q → A q) (isC isR : List Nat) (hC : isC.map (fun i => ws[i]?) = Wc.map some) (hR : isR.map (fun i => ws[i]?) = wr.map some) (hnd : va_nd isC = true) (hnr : va_nd isR = true) (hdis : ∀ i ∈ isR, i ∉ isC)
    (hn : As.length = n) (hsz : ls.size = nL) (hst : st0 = As.reverse ++ rest) (hW : (rest.map fun v => v.category).sum ≤ 8) (hdg : decode cc pc = .ok (.invokestatic index, 3)) (hf : cells + mc ≤ R.cells ∧ slots + ms ≤ R.slots)
    (kk : ∀ (r : Int32) (u : S) (H1 : Heap) (locs1 : List Loc), postI r u → va_P D cl (wr ++ W1 u) H1 → va_D A (wr ++ W1 u) → va_S A s.heap H1 locs1 → W p l e R s m args below meth c H1 locs1 (cells + mc) (slots + ms) Q (F0 m (pc + 3) ls (.int r :: rest))) : W p l e R s m args below meth c H locs cells slots Q (F0 m pc ls st0) := by
  have hPc := ey_P hP hC
  have hDc := hD.sub isC hnd hC
  have hFc := va_free hD hS hA isC hC
  refine va_calli (va_runSN (As := As) (rest := rest) F (hM H.size) ⟨cw, hst9, trivial⟩ ⟨ey_blind, fun U hU hW9 => ⟨rfl, by rw [hU], by rw [hU]; exact hPc, va_K.moved hW9.alike hK, ex_G.warm hW9 hG, hDc.weaken (fun _ _ _ _ => trivial)⟩⟩ rfl hn hsz hst (lv_room hW) hdg hf) hS (fun q _ h => hFc q h) hFc (fun r u t H1 locs1 ht hvm hw hB hz1 hk1 hS1 => ?_)
  obtain ⟨hP1, hD1⟩ := hB
  rw [ht] at hP1
  obtain ⟨hP2, hD2⟩ := va_join hP hD isC isR hC hR hnr hdis hk1 hFc hP1 hD1
  exact kk r u H1 locs1 hw hP2 hD2 hS1
theorem ey_Iv (F : CallFix p m c cc nL s args Ts own) (hM : ey_Mv l y wy rm D cl kt (.ref b :: As) Wc postV W1 mc ms) (cw : CallB R s args own index y bytes maxL none wy rm mc ms n ∧ y.name = "<init>" ∧ (Cond.instanceMethod y).before args s = true)
    (hK : va_K D cl kt s) (hG : ex_G s) (hP : va_P D cl ws H) (hD : va_D A ws) (hS : va_S A s.heap H locs) (hA : ∀ q, s.heap.size ≤ q → A q) (isC isR : List Nat) (hC : isC.map (fun i => ws[i]?) = Wc.map some) (hR : isR.map (fun i => ws[i]?) = wr.map some) (hnd : va_nd isC = true) (hnr : va_nd isR = true) (hdis : ∀ i ∈ isR, i ∉ isC)
    (hn : As.length = n) (hsz : ls.size = nL) (hst : st0 = As.reverse ++ .ref b :: rest) (hW : (rest.map fun v => v.category).sum ≤ 8) (hdg : decode cc pc = .ok (.invokespecial index, 3)) (hf : cells + mc ≤ R.cells ∧ slots + ms ≤ R.slots)
    (kk : ∀ (u : S) (H1 : Heap) (locs1 : List Loc), postV u → va_P D cl (wr ++ W1 u) H1 → va_D A (wr ++ W1 u) → va_S A s.heap H1 locs1 → W p l e R s m args below meth c H1 locs1 (cells + mc) (slots + ms) Q (F0 m (pc + 3) ls rest)) : W p l e R s m args below meth c H locs cells slots Q (F0 m pc ls st0) := by
  have hPc := ey_P hP hC
  have hDc := hD.sub isC hnd hC
  have hFc := va_free hD hS hA isC hC
  refine va_callv (va_runI (As := As) (rest := rest) F (hM H.size) cw ⟨ey_blind, fun U hU hW9 => ⟨rfl, by rw [hU], by rw [hU]; exact hPc, va_K.moved hW9.alike hK, ex_G.warm hW9 hG, hDc.weaken (fun _ _ _ _ => trivial)⟩⟩ rfl hn hsz hst (lv_room hW) hdg hf) hS (fun q _ h => hFc q h) hFc (fun u t H1 locs1 ht hvm hw hB hz1 hk1 hS1 => ?_)
  obtain ⟨hP1, hD1⟩ := hB
  rw [ht] at hP1
  obtain ⟨hP2, hD2⟩ := va_join hP hD isC isR hC hR hnr hdis hk1 hFc hP1 hD1
  exact kk u H1 locs1 hw hP2 hD2 hS1
theorem ey_INv (F : CallFix p m c cc nL s args Ts own) (hM : ey_Mv l y wy rm D cl kt (.ref b :: As) Wc postV W1 mc ms) (cw : va_CN R s args own index y host bytes maxL none wy rm mc ms n) (hin9 : (Cond.instanceMethod y).before args s = true)
    (hK : va_K D cl kt s) (hG : ex_G s) (hP : va_P D cl ws H) (hD : va_D A ws) (hS : va_S A s.heap H locs) (hA : ∀ q, s.heap.size ≤ q → A q) (isC isR : List Nat) (hC : isC.map (fun i => ws[i]?) = Wc.map some) (hR : isR.map (fun i => ws[i]?) = wr.map some) (hnd : va_nd isC = true) (hnr : va_nd isR = true) (hdis : ∀ i ∈ isR, i ∉ isC)
    (hn : As.length = n) (hsz : ls.size = nL) (hst : st0 = As.reverse ++ .ref b :: rest) (hW : (rest.map fun v => v.category).sum ≤ 8) (hdg : decode cc pc = .ok (.invokespecial index, 3)) (hf : cells + mc ≤ R.cells ∧ slots + ms ≤ R.slots)
    (kk : ∀ (u : S) (H1 : Heap) (locs1 : List Loc), postV u → va_P D cl (wr ++ W1 u) H1 → va_D A (wr ++ W1 u) → va_S A s.heap H1 locs1 → W p l e R s m args below meth c H1 locs1 (cells + mc) (slots + ms) Q (F0 m (pc + 3) ls rest)) (hnm : y.name = "<init>" := by rfl) : W p l e R s m args below meth c H locs cells slots Q (F0 m pc ls st0) := by
  have hPc := ey_P hP hC
  have hDc := hD.sub isC hnd hC
  have hFc := va_free hD hS hA isC hC
  refine va_callv (va_runIN (As := As) (rest := rest) F (hM H.size) ⟨cw, hnm, hin9⟩ ⟨ey_blind, fun U hU hW9 => ⟨rfl, by rw [hU], by rw [hU]; exact hPc, va_K.moved hW9.alike hK, ex_G.warm hW9 hG, hDc.weaken (fun _ _ _ _ => trivial)⟩⟩ rfl hn hsz hst (lv_room hW) hdg hf) hS (fun q _ h => hFc q h) hFc (fun u t H1 locs1 ht hvm hw hB hz1 hk1 hS1 => ?_)
  obtain ⟨hP1, hD1⟩ := hB
  rw [ht] at hP1
  obtain ⟨hP2, hD2⟩ := va_join hP hD isC isR hC hR hnr hdis hk1 hFc hP1 hD1
  exact kk u H1 locs1 hw hP2 hD2 hS1
/-- ends: the world's cells by their places -/
theorem ey_iret {v : Int32} (hexec : p.tables.exec = Jvm.exec) (hb : c.code = cc) (hr : meth.sig.returnType = some .int) (hlocks : meth.locks = false) (hP : va_P D cl ws H) (hD : va_D A ws) (hS : va_S A s.heap H locs) (u : S) (is : List Nat) (hw : is.map (fun i => ws[i]?) = (W1 u).map some) (hnd : va_nd is = true) (hp : postI v u) (hdg : decode cc pc = .ok (.ireturn, 1)) (h1 : cells ≤ mc) (h2 : slots ≤ ms) :
    W p l e R s m args below meth c H locs cells slots (MQ below (va_Qi postI (fun u t => ey_Post D cl A (W1 u) t) A) args s mc ms A) (F0 m pc ls [.int v]) := by
  refine W.widen h1 h2 ?_
  exact W.iret (v := v) hexec hb hr (fun t ht _ => ⟨⟨v, u, rfl, hp, by rw [ht]; exact ey_P hP hw, hD.sub is hnd hw⟩, hS.F ht⟩) hS.2.2 hdg hlocks
theorem ey_zret {v : Int32} (hexec : p.tables.exec = Jvm.exec) (hb : c.code = cc) (hr : meth.sig.returnType = some .boolean) (hlocks : meth.locks = false) (hP : va_P D cl ws H) (hD : va_D A ws) (hS : va_S A s.heap H locs) (u : S) (is : List Nat) (hw : is.map (fun i => ws[i]?) = (W1 u).map some) (hnd : va_nd is = true) (hp : postI v u) (hdg : decode cc pc = .ok (.ireturn, 1)) (h1 : cells ≤ mc) (h2 : slots ≤ ms) (hn : narrow .boolean (.int v) = .int v) :
    W p l e R s m args below meth c H locs cells slots (MQ below (va_Qi postI (fun u t => ey_Post D cl A (W1 u) t) A) args s mc ms A) (F0 m pc ls [.int v]) := by
  refine W.widen h1 h2 ?_
  exact W.zret (v := v) hexec hb hr hn (fun t ht _ => ⟨⟨v, u, rfl, hp, by rw [ht]; exact ey_P hP hw, hD.sub is hnd hw⟩, hS.F ht⟩) hS.2.2 hdg hlocks
theorem ey_vret (hexec : p.tables.exec = Jvm.exec) (hb : c.code = cc) (hr : meth.sig.returnType = none) (hlocks : meth.locks = false) (hP : va_P D cl ws H) (hD : va_D A ws) (hS : va_S A s.heap H locs) (u : S) (is : List Nat) (hw : is.map (fun i => ws[i]?) = (W1 u).map some) (hnd : va_nd is = true) (hp : postV u) (hdg : decode cc pc = .ok (.return_, 1)) (h1 : cells ≤ mc) (h2 : slots ≤ ms) :
    W p l e R s m args below meth c H locs cells slots (MQ below (va_Qv postV (fun u t => ey_Post D cl A (W1 u) t) A) args s mc ms A) (F0 m pc ls []) := by
  refine W.widen h1 h2 ?_
  exact W.vret hexec hb hr (fun t ht _ => ⟨⟨u, rfl, hp, by rw [ht]; exact ey_P hP hw, hD.sub is hnd hw⟩, hS.F ht⟩) hS.2.2 hdg hlocks
end EYC
/-- what a method's body stands on, for its loops -/
def ey_Cx (p : Program) (s : State) (m : MethodId) (args : Array Value) (meth : Method) (c : Code) (cc : ByteArray) (nL : Nat) (own : String) (Ts : List Cond) (ret : Option FieldType) (A : Nat → Prop) : Prop :=
  p.tables.exec = Jvm.exec ∧ c.code = cc ∧ c.maxLocals = nL ∧ s.vm.findClass own = some m.cls ∧ (∀ w ∈ Ts, w.before args s = true) ∧ meth.sig.returnType = ret ∧ meth.locks = false ∧ (∀ q, s.heap.size ≤ q → A q)
/-- a counted loop's value: f from i on, k times -/
def ey_it {α : Type} (f : Nat → α → α) : Nat → Nat → α → α
  | _, 0, x => x
  | i, k + 1, x => ey_it f (i + 1) k (f i x)
theorem ey_it_succ {α : Type} (f : Nat → α → α) (i k : Nat) (x : α) : ey_it f i (k + 1) x = ey_it f (i + 1) k (f i x) := rfl
theorem ey_it_zero {α : Type} (f : Nat → α → α) (i : Nat) (x : α) : ey_it f i 0 x = x := rfl
theorem ey_in {x : Int32} {n : Nat} (hn : n < 2 ^ 31) (h1 : ¬ x < 0) (h2 : ¬ nI n ≤ x) : vp_in x n := by
  obtain ⟨j, hj, rfl⟩ := nI_of h1
  rw [nI_leI hn hj] at h2
  exact vp_in_nI (by omega) hn
theorem ey_in200 {x : Int32} (h1 : ¬ x < 0) (h2 : x < 200) : vp_in x 200 := by
  obtain ⟨j, hj, rfl⟩ := nI_of h1
  have h3 : nI j < nI 200 := h2
  rw [nI_ltI hj (by decide)] at h3
  exact vp_in_nI h3 (by decide)
theorem ey_cp {x : Int32} {n : Nat} (hn : n < 2 ^ 30) (h4 : 4096 ≤ n) (h1 : ¬ x < 0) (h2 : x ≤ nI n - 4096) : x.toNatClampNeg + (4096 : Int32).toNatClampNeg ≤ n := by
  obtain ⟨j, hj, rfl⟩ := nI_of h1
  have h3 : nI j ≤ nI (n - 4096) := by rw [← pk_sub h4]; exact h2
  rw [nI_leI hj (by omega)] at h3
  rw [nI_clamp hj, show (4096 : Int32).toNatClampNeg = 4096 from by decide]
  omega
theorem ey_cp2 {x : Int32} {n : Nat} (hn : n < 2 ^ 30) (h4 : 4096 ≤ n) (h1 : ¬ x < 0) (h2 : ¬ nI n - 4096 < x) : x.toNatClampNeg + (4096 : Int32).toNatClampNeg ≤ n := by
  obtain ⟨j, hj, rfl⟩ := nI_of h1
  have h3 : ¬ nI (n - 4096) < nI j := by rw [← pk_sub h4]; exact h2
  rw [nI_ltI (by omega) hj] at h3
  rw [nI_clamp hj, show (4096 : Int32).toNatClampNeg = 4096 from by decide]
  omega
theorem ey_fill_step {i k : Nat} {x : Int32} {f g : Nat → Int32} (hg : ∀ j, g j = if j < i then x else f j) (hk : k = i) : ∀ j, upd g k x j = if j < i + 1 then x else f j := by
  intro j
  subst hk
  by_cases h : j = k
  · subst h
    rw [pk_us, if_pos (Nat.lt_succ_self _)]
  · rw [pk_un h, hg j]
    by_cases h2 : j < k
    · rw [if_pos h2, if_pos (by omega)]
    · rw [if_neg h2, if_neg (by omega)]
theorem ey_lt24 {i : Nat} (h : i ≤ 24) (c : ¬ (24 : Int32) ≤ nI i) : i < 24 := by
  have h3 : ¬ nI 24 ≤ nI i := c
  rw [nI_leI (by decide) (by omega)] at h3
  omega
theorem ey_lt200 {i : Nat} (h : i ≤ 200) (c : ¬ (200 : Int32) ≤ nI i) : i < 200 := by
  have h3 : ¬ nI 200 ≤ nI i := c
  rw [nI_leI (by decide) (by omega)] at h3
  omega
theorem ey_max0 (x : Int32) : ¬ (if 0 < x then x else 0 : Int32) < 0 := by
  by_cases h : 0 < x
  · rw [if_pos h]
    intro h2
    have a := Int32.lt_iff_toInt_lt.mp h
    have b := Int32.lt_iff_toInt_lt.mp h2
    omega
  · rw [if_neg h]
    decide
theorem ey_ct_b {n : Nat} {b : Int32} (hn : n < 2 ^ 30) (c : ¬ nI n ≤ b) (h0 : ¬ b < 0) : ¬ b + 1 < 0 := by
  obtain ⟨j, hj, rfl⟩ := nI_of h0
  rw [nI_leI (by omega) hj] at c
  rw [nI_1]
  exact nI_pos (by omega)
theorem ey_ct_f {n fuel : Nat} {b : Int32} (hn : n < 2 ^ 30) (c : ¬ nI n ≤ b) (h0 : ¬ b < 0) (hf : n < fuel + 1 + b.toNatClampNeg) : n < fuel + (b + 1).toNatClampNeg := by
  obtain ⟨j, hj, rfl⟩ := nI_of h0
  rw [nI_leI (by omega) hj] at c
  rw [nI_clamp hj] at hf
  rw [nI_1, nI_clamp (by omega)]
  omega
theorem ey_ct_1 {n fuel : Nat} {b : Int32} (hn : n < 2 ^ 30) (c : ¬ nI n ≤ b) (h0 : ¬ b < 0) (hf : n < fuel + 1 + b.toNatClampNeg) : 1 ≤ fuel := by
  obtain ⟨j, hj, rfl⟩ := nI_of h0
  rw [nI_leI (by omega) hj] at c
  rw [nI_clamp hj] at hf
  omega
theorem ey_si0 {x : Int32} {n : Nat} (hn : n < 2 ^ 30) (h4 : 4 ≤ n) (h1 : ¬ x < 0) (h2 : x ≤ nI n - 4) : vp_in x n := by
  obtain ⟨j, hj, rfl⟩ := nI_of h1
  have h3 : nI j ≤ nI (n - 4) := by rw [← pk_sub h4]; exact h2
  rw [nI_leI hj (by omega)] at h3
  exact vp_in_nI (by omega) (by omega)
theorem ey_si1 {x : Int32} {n : Nat} (hn : n < 2 ^ 30) (h4 : 4 ≤ n) (h1 : ¬ x < 0) (h2 : x ≤ nI n - 4) : vp_in (x + 1) n := by
  obtain ⟨j, hj, rfl⟩ := nI_of h1
  have h3 : nI j ≤ nI (n - 4) := by rw [← pk_sub h4]; exact h2
  rw [nI_leI hj (by omega)] at h3
  rw [show nI j + 1 = nI (j + 1) from nI_add j 1]
  exact vp_in_nI (by omega) (by omega)
theorem ey_si2 {x : Int32} {n : Nat} (hn : n < 2 ^ 30) (h4 : 4 ≤ n) (h1 : ¬ x < 0) (h2 : x ≤ nI n - 4) : vp_in (x + 2) n := by
  obtain ⟨j, hj, rfl⟩ := nI_of h1
  have h3 : nI j ≤ nI (n - 4) := by rw [← pk_sub h4]; exact h2
  rw [nI_leI hj (by omega)] at h3
  rw [show nI j + 2 = nI (j + 2) from nI_add j 2]
  exact vp_in_nI (by omega) (by omega)
theorem ey_si3 {x : Int32} {n : Nat} (hn : n < 2 ^ 30) (h4 : 4 ≤ n) (h1 : ¬ x < 0) (h2 : x ≤ nI n - 4) : vp_in (x + 3) n := by
  obtain ⟨j, hj, rfl⟩ := nI_of h1
  have h3 : nI j ≤ nI (n - 4) := by rw [← pk_sub h4]; exact h2
  rw [nI_leI hj (by omega)] at h3
  rw [show nI j + 3 = nI (j + 3) from nI_add j 3]
  exact vp_in_nI (by omega) (by omega)
theorem ey_ltc {i : Nat} {y c : Int32} (h : i ≤ 200) (hc : c = if y < 200 then y else 200) (h1 : ¬ c ≤ nI i) : i < 200 := by
  rcases Nat.lt_or_ge i 200 with q | q
  · exact q
  · have e : i = 200 := by omega
    subst e
    refine absurd ?_ h1
    rw [hc]
    by_cases h2 : y < 200
    · rw [if_pos h2]
      have a := Int32.lt_iff_toInt_lt.mp h2
      exact Int32.le_iff_toInt_le.mpr (by rw [nI_toInt (by decide)]; have b : (200 : Int32).toInt = 200 := by decide
                                          omega)
    · rw [if_neg h2]
      decide
theorem ey_co_i {y : Int32} {i : Nat} (hrow : ∃ k : Nat, k ≤ 128 ∧ y = nI k) (h : i ≤ 128) (c : ¬ y ≤ nI i) : i + 1 ≤ 128 := by
  obtain ⟨k, hk, e⟩ := hrow
  rw [e, nI_leI (by omega) (by omega)] at c
  omega
theorem ey_inlt {x : Int32} {n : Nat} {k : Int32} (hk : k = nI n ∧ n < 2 ^ 31) (h1 : ¬ x < 0) (h2 : x < k) : vp_in x n := by
  obtain ⟨j, hj, rfl⟩ := nI_of h1
  rw [hk.1, nI_ltI hj hk.2] at h2
  exact vp_in_nI h2 hk.2
theorem ey_dec1 {y : Int32} (h : ¬ y < 0) : -1 ≤ (y + -1).toInt := by
  obtain ⟨j, hj, rfl⟩ := nI_of h
  cases j with
  | zero => decide
  | succ j =>
    rw [pk_m1, nI_toInt (by omega)]
    omega
theorem ey_dec2 {y : Int32} {k : Nat} (h : ¬ y < 0) (h2 : y.toInt + 2 ≤ ((k + 1 : Nat) : Int)) : (y + -1).toInt + 2 ≤ (k : Int) := by
  obtain ⟨j, hj, rfl⟩ := nI_of h
  rw [nI_toInt hj] at h2
  cases j with
  | zero =>
    have e : (nI 0 + -1).toInt = -1 := by decide
    rw [e]
    omega
  | succ j =>
    rw [pk_m1, nI_toInt (by omega)]
    omega
theorem ey_put1 {x : Int32} (h1 : ¬ x < 1) (h2 : x ≤ 8) : -1 ≤ (x - 1).toInt := by
  have a := Int32.le_iff_toInt_le.mp h2
  have b : ¬ x.toInt < (1 : Int32).toInt := fun h => h1 (Int32.lt_iff_toInt_lt.mpr h)
  have c1 : (1 : Int32).toInt = 1 := by decide
  have c8 : (8 : Int32).toInt = 8 := by decide
  rw [c1] at b
  rw [c8] at a
  have e : (x - 1).toInt = x.toInt - 1 := by
    rw [Int32.toInt_sub, c1]
    exact Int.bmod_eq_of_le (by omega) (by omega)
  omega
theorem ey_put2 {x : Int32} (h1 : ¬ x < 1) (h2 : x ≤ 8) : (x - 1).toInt + 2 ≤ ((9 : Nat) : Int) := by
  have a := Int32.le_iff_toInt_le.mp h2
  have b : ¬ x.toInt < (1 : Int32).toInt := fun h => h1 (Int32.lt_iff_toInt_lt.mpr h)
  have c1 : (1 : Int32).toInt = 1 := by decide
  have c8 : (8 : Int32).toInt = 8 := by decide
  rw [c1] at b
  rw [c8] at a
  have e : (x - 1).toInt = x.toInt - 1 := by
    rw [Int32.toInt_sub, c1]
    exact Int.bmod_eq_of_le (by omega) (by omega)
  omega
theorem ey_fl_x {x : Int32} (h1 : ¬ x < 1) : ¬ x < 0 := by
  intro h
  have a := Int32.lt_iff_toInt_lt.mp h
  have b : ¬ x.toInt < (1 : Int32).toInt := fun h => h1 (Int32.lt_iff_toInt_lt.mpr h)
  have c1 : (1 : Int32).toInt = 1 := by decide
  have c0 : (0 : Int32).toInt = 0 := by decide
  rw [c1] at b
  rw [c0] at a
  omega
theorem ey_fl_i {x : Int32} {i : Nat} (hx : ¬ x < 0) (hin : i ≤ x.toNatClampNeg) (c : ¬ x ≤ nI i) : i + 1 ≤ x.toNatClampNeg := by
  obtain ⟨j, hj, rfl⟩ := nI_of hx
  rw [nI_clamp hj] at hin ⊢
  rw [nI_leI hj (by omega)] at c
  omega
theorem ey_one : ¬ (1 : Int32) = 0 := by decide
end
section
/-! methods that may throw: the world is as it was -/
def ey_Z (A : Nat → Prop) (U : State) (H : Heap) : Prop := vx_Zq "java/lang/Throwable" "UNASSIGNED_STACK" "[Ljava/lang/StackTraceElement;" A U H ∧ vx_Zq "java/lang/Throwable" "SUPPRESSED_SENTINEL" "Ljava/util/List;" A U H
theorem ey_Z.moved {A : Nat → Prop} {u U : State} {H : Heap} (hvm : u.vm.Alike U.vm) (h : ey_Z A u H) : ey_Z A U H := ⟨h.1.moved hvm, h.2.moved hvm⟩
theorem ey_Z.kept {A : Nat → Prop} {U : State} {H H1 : Heap} (h : ey_Z A U H) (hq : ∀ a : Nat, a < H.size → ¬ A a → H1[a]? = H[a]?) : ey_Z A U H1 := ⟨h.1.kept hq, h.2.kept hq⟩
theorem ey_Z.narrow {A B : Nat → Prop} {U : State} {H : Heap} (h : ey_Z A U H) (hAB : ∀ q, B q → A q) : ey_Z B U H := ⟨h.1.narrow hAB, h.2.narrow hAB⟩
def ey_PreX (D : va_G) (cl : List vw_C) (kt : List (ClassId × FieldType)) (W9 : va_W) (sz : Nat) (U : State) : Prop := ey_Z (va_A W9 sz) U U.heap ∧ ey_Pre D cl kt W9 sz U
def ey_Xi (l : Launch) (y : MethodName) (ws : List Cond) (rm : Room) (D : va_G) (cl : List vw_C) (kt : List (ClassId × FieldType)) (av : List Value) (W0 : va_W) {S : Type} (post : Int32 → S → Prop) (W1 : S → va_W) (thr : String → Prop) (mc ms : Nat) : Prop :=
  ∀ sz : Nat, vx_Met l y ws rm (va_Pc av (ey_PreX D cl kt W0 sz)) (va_Qi post (fun u t => ey_Post D cl (va_A W0 sz) (W1 u) t) (va_A W0 sz)) (vx_X (fun _ : Unit => True) (fun E _ t => thr E ∧ ey_Post D cl (va_A W0 sz) W0 t) (va_A W0 sz)) mc ms (va_A W0 sz)
def ey_Xv (l : Launch) (y : MethodName) (ws : List Cond) (rm : Room) (D : va_G) (cl : List vw_C) (kt : List (ClassId × FieldType)) (av : List Value) (W0 : va_W) {S : Type} (post : S → Prop) (W1 : S → va_W) (thr : String → Prop) (mc ms : Nat) : Prop :=
  ∀ sz : Nat, vx_Met l y ws rm (va_Pc av (ey_PreX D cl kt W0 sz)) (va_Qv post (fun u t => ey_Post D cl (va_A W0 sz) (W1 u) t) (va_A W0 sz)) (vx_X (fun _ : Unit => True) (fun E _ t => thr E ∧ ey_Post D cl (va_A W0 sz) W0 t) (va_A W0 sz)) mc ms (va_A W0 sz)
theorem ey_blindX {D : va_G} {cl : List vw_C} {kt : List (ClassId × FieldType)} {W9 : va_W} {sz : Nat} {av : List Value} : FrameBlind (va_Pc av (ey_PreX D cl kt W9 sz)) := fun a U g mk q => by
  obtain ⟨q0, qZ, q1, qP, qK, qG, qD⟩ := q
  exact ⟨q0, qZ.moved (u := U) (U := U.calling g mk a) (Vm.Alike.refl U.vm), q1, qP, va_K.moved (u := U) (U := U.calling g mk a) (Vm.Alike.refl U.vm) qK, ex_G.same (u := U) (U := U.calling g mk a) rfl qG, qD⟩
theorem ey_keptX {D : va_G} {cl : List vw_C} {ws : va_W} {A : Nat → Prop} {s t : State} {H : Heap} {locs : List Loc} (hP : va_P D cl ws H) (hD : va_D A ws) (hS : va_S A s.heap H locs) (hz : H.size ≤ t.heap.size) (hk : ∀ q : Nat, q < H.size → t.heap[q]? = H[q]?) : ey_Post D cl A ws t ∧ va_F A s t :=
  ⟨⟨hP.kept (fun k q h => hk q.1 (vx_lt hP h)), hD⟩, Nat.le_trans hS.1 hz, fun q h1 h2 => (hk q (Nat.lt_of_lt_of_le h1 hS.1)).trans (hS.2.1 q h1 h2)⟩
/-- a static method of the law that catches: its contract -/
def ey_Hi (l : Launch) (y : MethodName) (ws : List Cond) (rm : Room) (D : va_G) (cl : List vw_C) (kt : List (ClassId × FieldType)) (av : List Value) (W0 : va_W) {S : Type} (post : Int32 → S → Prop) (W1 : S → va_W) (mc ms : Nat) : Prop :=
  ∀ sz : Nat, Met l y ws rm (va_Pc av (ey_PreX D cl kt W0 sz)) (va_Qi post (fun u t => ey_Post D cl (va_A W0 sz) (W1 u) t) (va_A W0 sz)) mc ms (va_A W0 sz)
theorem ey_Z.at {A : Nat → Prop} {s : State} {H : Heap} {locs : List Loc} (h : ey_Z A s s.heap) (hS : va_S A s.heap H locs) : ey_Z A s H := h.kept (fun a h1 h2 => hS.2.1 a h1 h2)
section EYX
variable {p : Program} {l : Launch} {e : Env} {R : Room} {s : State} {m : MethodId} {args : Array Value} {below : List Frame} {meth : Method} {c : Code} {H : Heap} {locs : List Loc} {cells slots : Nat} {Q : State → Prop}
variable {cc bytes : ByteArray} {nL maxL mc ms n index pc : Nat} {ret : Option FieldType} {wy : List Cond} {rm : Room} {Ts : List Cond} {own C : String} {y : MethodName} {b : Nat} {As rest st0 : List Value} {ls : Array Slot} {hh : List (Nat × Nat × Nat × Nat)}
variable {D : va_G} {cl : List vw_C} {kt : List (ClassId × FieldType)} {ws Wc wr : va_W} {A : Nat → Prop} {S : Type} {postI : Int32 → S → Prop} {postV : S → Prop} {W1 : S → va_W} {thr : String → Prop}
theorem ey_XVi (F : CallFix p m c cc nL s args Ts own) (hM : ey_Xi l y wy rm D cl kt (.ref b :: As) Wc postI W1 thr mc ms) (cw : CallW R s args own C index y bytes maxL ret wy rm mc ms n)
    (hK : va_K D cl kt s) (hG : ex_G s) (hZ : ey_Z A s s.heap) (hP : va_P D cl ws H) (hD : va_D A ws) (hS : va_S A s.heap H locs) (hA : ∀ q, s.heap.size ≤ q → A q) (isC isR : List Nat) (hC : isC.map (fun i => ws[i]?) = Wc.map some) (hR : isR.map (fun i => ws[i]?) = wr.map some) (hnd : va_nd isC = true) (hnr : va_nd isR = true) (hdis : ∀ i ∈ isR, i ∉ isC)
    {ci q0 N : Nat} {T : u_T} {fs : List Value} (hci : cl[ci]? = some (C, T, N)) (hq : Wc[q0]? = some (b, .inr (ci, fs))) (hn : As.length = n) (hsz : ls.size = nL) (hst : st0 = As.reverse ++ .ref b :: rest) (hW : (rest.map fun v => v.category).sum ≤ 8) (hdg : decode cc pc = .ok (.invokevirtual index, 3)) (hf : cells + mc ≤ R.cells ∧ slots + ms ≤ R.slots)
    (kx : ∀ (E : String) (ce : Cell) (q9 : Addr) (H1 : Heap) (locs1 : List Loc), thr E → va_P D cl (wr ++ Wc) H1 → va_D A (wr ++ Wc) → va_S A s.heap H1 locs1 → H1[q9]? = some ce → ce.vm = .none → s.vm.findClass E = some ce.cls → vx_W p l e R s m args below meth c H1 locs1 (cells + mc) (slots + ms) Q (F0 m pc ls rest) q9)
    (kk : ∀ (r : Int32) (u : S) (H1 : Heap) (locs1 : List Loc), postI r u → va_P D cl (wr ++ W1 u) H1 → va_D A (wr ++ W1 u) → va_S A s.heap H1 locs1 → W p l e R s m args below meth c H1 locs1 (cells + mc) (slots + ms) Q (F0 m (pc + 3) ls (.int r :: rest))) : W p l e R s m args below meth c H locs cells slots Q (F0 m pc ls st0) := by
  have hPc := ey_P hP hC
  have hDc := hD.sub isC hnd hC
  have hFc := va_free hD hS hA isC hC
  have hZc := (hZ.at hS).narrow hFc
  refine vx_calli (vx_runV (As := As) (rest := rest) F (hM H.size) cw ⟨ey_blindX, va_recv hK hPc hci hq, fun U hU hW9 => ⟨rfl, by rw [hU]; exact hZc.moved hW9.alike, by rw [hU], by rw [hU]; exact hPc, va_K.moved hW9.alike hK, ex_G.warm hW9 hG, hDc.weaken (fun _ _ _ _ => trivial)⟩⟩ rfl hn hsz hst (lv_room hW) hdg hf) hS (fun q _ h => hFc q h) hFc (fun q _ h => hFc q h) (fun E ce q9 u t H1 locs1 ht hvm hp hB hz1 hk1 hS1 h1 h2 h3 => ?_) (fun r u t H1 locs1 ht hvm hw hB hz1 hk1 hS1 => ?_)
  · obtain ⟨ht9, hP1, hD1⟩ := hB
    rw [ht] at hP1
    obtain ⟨hP2, hD2⟩ := va_join hP hD isC isR hC hR hnr hdis hk1 hFc hP1 hD1
    exact kx E ce q9 H1 locs1 ht9 hP2 hD2 hS1 h1 h2 h3
  · obtain ⟨hP1, hD1⟩ := hB
    rw [ht] at hP1
    obtain ⟨hP2, hD2⟩ := va_join hP hD isC isR hC hR hnr hdis hk1 hFc hP1 hD1
    exact kk r u H1 locs1 hw hP2 hD2 hS1
theorem ey_XVv (F : CallFix p m c cc nL s args Ts own) (hM : ey_Xv l y wy rm D cl kt (.ref b :: As) Wc postV W1 thr mc ms) (cw : CallW R s args own C index y bytes maxL ret wy rm mc ms n)
    (hK : va_K D cl kt s) (hG : ex_G s) (hZ : ey_Z A s s.heap) (hP : va_P D cl ws H) (hD : va_D A ws) (hS : va_S A s.heap H locs) (hA : ∀ q, s.heap.size ≤ q → A q) (isC isR : List Nat) (hC : isC.map (fun i => ws[i]?) = Wc.map some) (hR : isR.map (fun i => ws[i]?) = wr.map some) (hnd : va_nd isC = true) (hnr : va_nd isR = true) (hdis : ∀ i ∈ isR, i ∉ isC)
    {ci q0 N : Nat} {T : u_T} {fs : List Value} (hci : cl[ci]? = some (C, T, N)) (hq : Wc[q0]? = some (b, .inr (ci, fs))) (hn : As.length = n) (hsz : ls.size = nL) (hst : st0 = As.reverse ++ .ref b :: rest) (hW : (rest.map fun v => v.category).sum ≤ 8) (hdg : decode cc pc = .ok (.invokevirtual index, 3)) (hf : cells + mc ≤ R.cells ∧ slots + ms ≤ R.slots)
    (kx : ∀ (E : String) (ce : Cell) (q9 : Addr) (H1 : Heap) (locs1 : List Loc), thr E → va_P D cl (wr ++ Wc) H1 → va_D A (wr ++ Wc) → va_S A s.heap H1 locs1 → H1[q9]? = some ce → ce.vm = .none → s.vm.findClass E = some ce.cls → vx_W p l e R s m args below meth c H1 locs1 (cells + mc) (slots + ms) Q (F0 m pc ls rest) q9)
    (kk : ∀ (u : S) (H1 : Heap) (locs1 : List Loc), postV u → va_P D cl (wr ++ W1 u) H1 → va_D A (wr ++ W1 u) → va_S A s.heap H1 locs1 → W p l e R s m args below meth c H1 locs1 (cells + mc) (slots + ms) Q (F0 m (pc + 3) ls rest)) : W p l e R s m args below meth c H locs cells slots Q (F0 m pc ls st0) := by
  have hPc := ey_P hP hC
  have hDc := hD.sub isC hnd hC
  have hFc := va_free hD hS hA isC hC
  have hZc := (hZ.at hS).narrow hFc
  refine vx_callv (vx_runV (As := As) (rest := rest) F (hM H.size) cw ⟨ey_blindX, va_recv hK hPc hci hq, fun U hU hW9 => ⟨rfl, by rw [hU]; exact hZc.moved hW9.alike, by rw [hU], by rw [hU]; exact hPc, va_K.moved hW9.alike hK, ex_G.warm hW9 hG, hDc.weaken (fun _ _ _ _ => trivial)⟩⟩ rfl hn hsz hst (lv_room hW) hdg hf) hS (fun q _ h => hFc q h) hFc (fun q _ h => hFc q h) (fun E ce q9 u t H1 locs1 ht hvm hp hB hz1 hk1 hS1 h1 h2 h3 => ?_) (fun u t H1 locs1 ht hvm hw hB hz1 hk1 hS1 => ?_)
  · obtain ⟨ht9, hP1, hD1⟩ := hB
    rw [ht] at hP1
    obtain ⟨hP2, hD2⟩ := va_join hP hD isC isR hC hR hnr hdis hk1 hFc hP1 hD1
    exact kx E ce q9 H1 locs1 ht9 hP2 hD2 hS1 h1 h2 h3
  · obtain ⟨hP1, hD1⟩ := hB
    rw [ht] at hP1
    obtain ⟨hP2, hD2⟩ := va_join hP hD isC isR hC hR hnr hdis hk1 hFc hP1 hD1
    exact kk u H1 locs1 hw hP2 hD2 hS1
/-- the law's call of one of its own that catches -/
theorem ey_SWi (F : CallFix p m c cc nL s args Ts own) (hM : ey_Hi l y wy rm D cl kt As Wc postI W1 mc ms) (cw : vx_CSW R s args own index y bytes maxL ret hh wy rm mc ms n)
    (hK : va_K D cl kt s) (hG : ex_G s) (hZ : ey_Z A s s.heap) (hP : va_P D cl ws H) (hD : va_D A ws) (hS : va_S A s.heap H locs) (hA : ∀ q, s.heap.size ≤ q → A q) (isC isR : List Nat) (hC : isC.map (fun i => ws[i]?) = Wc.map some) (hR : isR.map (fun i => ws[i]?) = wr.map some) (hnd : va_nd isC = true) (hnr : va_nd isR = true) (hdis : ∀ i ∈ isR, i ∉ isC)
    (hn : As.length = n) (hsz : ls.size = nL) (hst : st0 = As.reverse ++ rest) (hW : (rest.map fun v => v.category).sum ≤ 8) (hdg : decode cc pc = .ok (.invokestatic index, 3)) (hf : cells + mc ≤ R.cells ∧ slots + ms ≤ R.slots)
    (kk : ∀ (r : Int32) (u : S) (H1 : Heap) (locs1 : List Loc), postI r u → va_P D cl (wr ++ W1 u) H1 → va_D A (wr ++ W1 u) → va_S A s.heap H1 locs1 → W p l e R s m args below meth c H1 locs1 (cells + mc) (slots + ms) Q (F0 m (pc + 3) ls (.int r :: rest))) : W p l e R s m args below meth c H locs cells slots Q (F0 m pc ls st0) := by
  have hPc := ey_P hP hC
  have hDc := hD.sub isC hnd hC
  have hFc := va_free hD hS hA isC hC
  have hZc := (hZ.at hS).narrow hFc
  refine va_calli (vx_runSW (As := As) (rest := rest) F (hM H.size) cw ⟨ey_blindX, fun U hU hW9 => ⟨rfl, by rw [hU]; exact hZc.moved hW9.alike, by rw [hU], by rw [hU]; exact hPc, va_K.moved hW9.alike hK, ex_G.warm hW9 hG, hDc.weaken (fun _ _ _ _ => trivial)⟩⟩ rfl hn hsz hst (lv_room hW) hdg hf) hS (fun q _ h => hFc q h) hFc (fun r u t H1 locs1 ht hvm hw hB hz1 hk1 hS1 => ?_)
  obtain ⟨hP1, hD1⟩ := hB
  rw [ht] at hP1
  obtain ⟨hP2, hD2⟩ := va_join hP hD isC isR hC hR hnr hdis hk1 hFc hP1 hD1
  exact kk r u H1 locs1 hw hP2 hD2 hS1
end EYX
end
section
/-! the program's methods as functions of numbers and rows of numbers: the same tests in the same order -/
abbrev ep_F : Type := Nat → Int32
def ep_blocks (x : Int32) : Int32 := (x + 4096 - 1) / 4096
def ep_down (n : Int32) : Int32 := if n = 0 then 1 else 0
def ep_not (x : Int32) : Int32 := if ¬ x = 0 then 0 else 1
def ep_read (n : Nat) (f : ep_F) (a : Int32) : Int32 := if a < 0 then 0 else if nI n ≤ a then 0 else f a.toNatClampNeg &&& 255
def ep_readInt (n : Nat) (f : ep_F) (a : Int32) : Int32 :=
  ((ep_read n f a <<< ((24 : Int32) &&& 31) ||| ep_read n f (a + 1) <<< ((16 : Int32) &&& 31)) ||| ep_read n f (a + 2) <<< ((8 : Int32) &&& 31)) ||| ep_read n f (a + 3)
/-- bytes, down, written, power left -/
abbrev ep_P : Type := ep_F × Int32 × Int32 × Int32
def ep_write (n : Nat) (q : ep_P) (ns : Nat) (g : ep_F) (bl fr : Int32) : Int32 × ep_P :=
  if ¬ q.2.1 = 0 then (0, q) else if bl * 4096 < 0 then (0, q) else if nI n - 4096 < bl * 4096 then (0, q) else if fr < 0 then (0, q) else
  if fr ≤ nI ns - 4096 then
    (if q.2.2.2 ≤ 0 then (ep_not q.2.1, va_cpy g q.1 fr.toNatClampNeg (bl * 4096).toNatClampNeg (4096 : Int32).toNatClampNeg, q.2.1, q.2.2.1 + 1, q.2.2.2)
     else (ep_not (ep_down (q.2.2.2 - 1)), va_cpy g q.1 fr.toNatClampNeg (bl * 4096).toNatClampNeg (4096 : Int32).toNatClampNeg, ep_down (q.2.2.2 - 1), q.2.2.1 + 1, q.2.2.2 - 1))
  else (0, q)
def ep_room (n : Nat) (len more : Int32) : Int32 := if nI n - len < more then 0 else 1
/-- bytes, length -/
abbrev ep_T : Type := ep_F × Int32
def ep_app (n : Nat) (q : ep_T) (b : Int32) : ep_T := if q.2 < 0 then q else if nI n ≤ q.2 then q else (upd q.1 q.2.toNatClampNeg (vp_nar .byte b), q.2 + 1)
def ep_holds (ex i : Int32) : Int32 := if i < 0 then 0 else if ex ≤ i then 0 else if 200 ≤ i then 0 else 1
/-- labels, firsts, sizes, how many -/
abbrev ep_R : Type := ep_F × ep_F × ep_F × Int32
def ep_add (q : ep_R) (a b c : Int32) : Int32 × ep_R :=
  if q.2.2.2 < 0 then (0, q) else if q.2.2.2 < 200 then (1, upd q.1 q.2.2.2.toNatClampNeg a, upd q.2.1 q.2.2.2.toNatClampNeg b, upd q.2.2.1 q.2.2.2.toNatClampNeg c, q.2.2.2 + 1) else (0, q)
def ep_fill (n : Nat) (v : Int32) (f : ep_F) : ep_F := fun j => if j < n then v else f j
def ep_fol1 (la fi si : ep_F) (fr to : Int32) (i : Nat) (q : ep_R) : ep_R :=
  if la (nI i).toNatClampNeg < fr then (ep_add q (la (nI i).toNatClampNeg) (fi (nI i).toNatClampNeg) (si (nI i).toNatClampNeg)).2
  else if la (nI i).toNatClampNeg ≤ to then q else (ep_add q (la (nI i).toNatClampNeg) (fi (nI i).toNatClampNeg) (si (nI i).toNatClampNeg)).2
def ep_fol (la fi si : ep_F) (ex fr to : Int32) : Nat → Nat → ep_R → ep_R
  | 0, _, q => q
  | k + 1, i, q => if ex ≤ nI i then q else if 200 ≤ nI i then q else ep_fol la fi si ex fr to k (i + 1) (ep_fol1 la fi si fr to i q)
def ep_tn (w : ep_F) : Nat → Nat → ep_F → ep_F
  | 0, _, g => g
  | k + 1, i, g => if 24 ≤ nI i then g else if nI 24 ≤ nI i then g else ep_tn w k (i + 1) (upd g (nI i).toNatClampNeg (w (nI i).toNatClampNeg))
def ep_ct1 (nT : Nat) (en : Int32) : Nat → Int32 → ep_F → ep_F
  | 0, _, t => t
  | k + 1, b, t => if en ≤ b then t else if nI nT ≤ b then t else ep_ct1 nT en k (b + 1) (upd t b.toNatClampNeg (t b.toNatClampNeg + 1))
def ep_ct (fi si : ep_F) (ex : Int32) (nT : Nat) : Nat → Nat → ep_F → ep_F
  | 0, _, t => t
  | k + 1, i, t => if ex ≤ nI i then t else if 200 ≤ nI i then t else ep_ct fi si ex nT k (i + 1) (ep_ct1 nT (fi (nI i).toNatClampNeg + ep_blocks (si (nI i).toNatClampNeg)) (nT + 1) (if 0 < fi (nI i).toNatClampNeg then fi (nI i).toNatClampNeg else 0) t)
def ep_ten (fi si : ep_F) (ex : Int32) (nT : Nat) (t : ep_F) : ep_F := ep_ct fi si ex nT 201 0 (ep_fill nT 0 t)
def ep_si (n : Nat) (g : ep_F) (a v : Int32) : ep_F :=
  if a < 0 then g else if a ≤ nI n - 4 then
    upd (upd (upd (upd g a.toNatClampNeg (vp_nar .byte (ey_ushr v 24).toInt8.toInt32)) (a + 1).toNatClampNeg (vp_nar .byte (ey_ushr v 16).toInt8.toInt32)) (a + 2).toNatClampNeg (vp_nar .byte (ey_ushr v 8).toInt8.toInt32)) (a + 3).toNatClampNeg (vp_nar .byte v.toInt8.toInt32)
  else g
def ep_sn (no : ep_F) (n : Nat) : Nat → Nat → ep_F → ep_F
  | 0, _, g => g
  | k + 1, i, g => if 24 ≤ nI i then g else ep_sn no n k (i + 1) (ep_si n g (8 + 4 * nI i) (no (nI i).toNatClampNeg))
def ep_sr (la fi si : ep_F) (ex : Int32) (n : Nat) : Nat → Nat → ep_F → ep_F
  | 0, _, g => g
  | k + 1, i, g => if ex ≤ nI i then g else if 200 ≤ nI i then g else
      ep_sr la fi si ex n k (i + 1) (ep_si n (ep_si n (ep_si n g (104 + 12 * nI i) (la (nI i).toNatClampNeg)) (104 + 12 * nI i + 4) (fi (nI i).toNatClampNeg)) (104 + 12 * nI i + 8) (si (nI i).toNatClampNeg))
def ep_store (q : ep_R) (no : ep_F) (ch : Int32) (n : Nat) (g : ep_F) : ep_F :=
  ep_sr q.1 q.2.1 q.2.2.1 q.2.2.2 n 201 0 (ep_sn no n 25 0 (ep_si n (ep_si n g 0 ch) 4 q.2.2.2))
def ep_ln (n : Nat) (f : ep_F) (st : Int32) : Nat → Nat → ep_F → ep_F
  | 0, _, no => no
  | k + 1, i, no => if 24 ≤ nI i then no else ep_ln n f st k (i + 1) (upd no (nI i).toNatClampNeg (ep_readInt n f (st + 8 + 4 * nI i)))
def ep_lr (n : Nat) (f : ep_F) (st cnt : Int32) : Nat → Nat → ep_R → ep_R
  | 0, _, q => q
  | k + 1, i, q => if cnt ≤ nI i then q else ep_lr n f st cnt k (i + 1) (ep_add q (ep_readInt n f (st + 104 + 12 * nI i)) (ep_readInt n f (st + 104 + 12 * nI i + 4)) (ep_readInt n f (st + 104 + 12 * nI i + 8))).2
/-- rows, notes, changes -/
abbrev ep_M : Type := ep_R × ep_F × Int32
def ep_load (n : Nat) (f : ep_F) (bl : Int32) (q : ep_M) : ep_M :=
  (ep_lr n f (bl * 4096) (if ep_readInt n f (bl * 4096 + 4) < 200 then ep_readInt n f (bl * 4096 + 4) else 200) 201 0 (q.1.1, q.1.2.1, q.1.2.2.1, 0), ep_ln n f (bl * 4096) 25 0 (ep_fill 24 0 q.2.1), ep_readInt n f (bl * 4096 + 0))
def ep_clear (q : ep_M) : ep_M := ((q.1.1, q.1.2.1, q.1.2.2.1, 0), ep_fill 24 0 q.2.1, 0)
def ep_follow (b : ep_M) (fr to : Int32) (q : ep_M) : ep_M :=
  (ep_fol b.1.1 b.1.2.1 b.1.2.2.1 b.1.2.2.2 fr to 201 0 (q.1.1, q.1.2.1, q.1.2.2.1, 0), ep_fill 24 0 q.2.1, b.2.2 + 1)
theorem ey_fill_end {n i : Nat} {x : Int32} {f g : ep_F} (hg : ∀ j, g j = if j < i then x else f j) (h : i = n) : g = ep_fill n x f := by
  subst h
  funext j
  exact hg j
def ep_fb (n : Nat) (t : ep_F) : Nat → Nat → Int32 → Int32
  | 0, _, a => a
  | k + 1, i, a => if nI n ≤ nI i then a else if ¬ t (nI i).toNatClampNeg = 0 then ep_fb n t k (i + 1) a else ep_fb n t k (i + 1) (a + 1)
def ep_free (fi si : ep_F) (ex : Int32) (n : Nat) (t : ep_F) : Int32 × ep_F := (ep_fb n (ep_ten fi si ex n t) n 2 0, ep_ten fi si ex n t)
def ep_ff (n : Nat) (t : ep_F) (len : Int32) : Nat → Nat → Int32 → Int32
  | 0, _, _ => -1
  | k + 1, i, a => if nI n ≤ nI i then -1 else
      if ¬ t (nI i).toNatClampNeg = 0 then (if ¬ (0 : Int32) = len then ep_ff n t len k (i + 1) 0 else nI i - len + 1)
      else (if ¬ a + 1 = len then ep_ff n t len k (i + 1) (a + 1) else nI i - len + 1)
def ep_first (fi si : ep_F) (ex : Int32) (n : Nat) (t : ep_F) (len : Int32) : Int32 × ep_F := (ep_ff n (ep_ten fi si ex n t) len n 2 0, ep_ten fi si ex n t)
def ep_db (n : Nat) (t : ep_F) : Nat → Nat → Int32 → Int32
  | 0, _, a => a
  | k + 1, i, a => if nI n ≤ nI i then a else ep_db n t k (i + 1) (a + (if 0 < t (nI i).toNatClampNeg - 1 then t (nI i).toNatClampNeg - 1 else 0))
/-- the tape's blocks, one after the other: 0 where the power failed -/
def ep_co (n nt : Nat) (tb : ep_F) (first row : Int32) : Nat → Nat → ep_P → Int32 × ep_P
  | 0, _, q => (1, q)
  | k + 1, i, q => if row ≤ nI i then (1, q) else if ¬ (ep_write n q nt tb (first + nI i) (nI i * 4096)).1 = 0 then ep_co n nt tb first row k (i + 1) (ep_write n q nt tb (first + nI i) (nI i * 4096)).2 else (0, (ep_write n q nt tb (first + nI i) (nI i * 4096)).2)
def ep_putl (n : Nat) (v : Int64) : Nat → Int32 → ep_T → ep_T
  | 0, _, q => q
  | k + 1, x, q => if x < 0 then q else ep_putl n v k (x + -1) (ep_app n q (ey_lushr v (8 * x)).toInt32.toInt8.toInt32)
def ep_fll (n : Nat) (b c : Int32) : Nat → Nat → ep_T → ep_T
  | 0, _, q => q
  | k + 1, i, q => if c ≤ nI i then q else ep_fll n b c k (i + 1) (ep_app n q (b + nI i).toInt8.toInt32)
abbrev ep_C : Type := Int32 × (Nat × Nat) × ep_P × Int32 × ep_F × ep_F × Int32 × Int32 × ep_F
/-- the manifest's own block -/
def ep_carry2 (nw nx nb : Nat) (q : ep_P) (row : Int32) (wf pg : ep_F) (ex ch : Int32) (no : ep_F) (k : ep_M) : ep_C :=
  if ¬ (ep_write nb q 4096 (ep_store k.1 k.2.1 k.2.2 4096 pg) (k.2.2 &&& 1) 0).1 = 0 then
    (row + 1, (nx, nw), (ep_write nb q 4096 (ep_store k.1 k.2.1 k.2.2 4096 pg) (k.2.2 &&& 1) 0).2, 0, wf, ep_store k.1 k.2.1 k.2.2 4096 pg, ex, ch, no)
  else (-3, (nw, nx), (ep_write nb q 4096 (ep_store k.1 k.2.1 k.2.2 4096 pg) (k.2.2 &&& 1) 0).2, 0, ep_fill 24 0 wf, ep_store k.1 k.2.1 k.2.2 4096 pg, 0, 0, ep_fill 24 0 no)
def ep_carry (nw nx nb nt : Nat) (q : ep_P) (tb : ep_F) (ln : Int32) (wf pg : ep_F) (ex ch : Int32) (no : ep_F) (k : ep_M) (first : Int32) : ep_C :=
  if ¬ (ep_co nb nt tb first (ep_blocks ln) 129 0 q).1 = 0 then ep_carry2 nw nx nb (ep_co nb nt tb first (ep_blocks ln) 129 0 q).2 (ep_blocks ln) wf pg ex ch no k
  else (-3, (nw, nx), (ep_co nb nt tb first (ep_blocks ln) 129 0 q).2, 0, ep_fill 24 0 wf, pg, 0, 0, ep_fill 24 0 no)
theorem ep_si_fit {n : Nat} {g : ep_F} {a v : Int32} (h : sb_Fit g) : sb_Fit (ep_si n g a v) := by
  unfold ep_si
  split
  · exact h
  · split
    · exact sb_fitU (sb_fitU (sb_fitU (sb_fitU h (pk_fb _)) (pk_fb _)) (pk_fb _)) (pk_fb _)
    · exact h
theorem ep_sn_fit {no : ep_F} {n : Nat} : ∀ (k i : Nat) (g : ep_F), sb_Fit g → sb_Fit (ep_sn no n k i g) := by
  intro k
  induction k with
  | zero => intro i g h; exact h
  | succ k ih =>
    intro i g h
    unfold ep_sn
    split
    · exact h
    · exact ih _ _ (ep_si_fit h)
theorem ep_sr_fit {la fi si : ep_F} {ex : Int32} {n : Nat} : ∀ (k i : Nat) (g : ep_F), sb_Fit g → sb_Fit (ep_sr la fi si ex n k i g) := by
  intro k
  induction k with
  | zero => intro i g h; exact h
  | succ k ih =>
    intro i g h
    unfold ep_sr
    split
    · exact h
    · split
      · exact h
      · exact ih _ _ (ep_si_fit (ep_si_fit (ep_si_fit h)))
theorem ep_store_fit {q : ep_R} {no : ep_F} {ch : Int32} {n : Nat} {g : ep_F} (h : sb_Fit g) : sb_Fit (ep_store q no ch n g) := ep_sr_fit _ _ _ (ep_sn_fit _ _ _ (ep_si_fit (ep_si_fit h)))
/-! what a call throws: 0 nothing, 1 illegal argument, 2 illegal state -/
def ep_kput (dn : Int32) (nt : Nat) (ln n : Int32) : Nat := if n < 1 then 1 else if n ≤ 8 then (if ¬ dn = 0 then 2 else if ¬ ep_room nt ln n = 0 then 0 else 2) else 1
def ep_kfill (dn : Int32) (nt : Nat) (ln n : Int32) : Nat := if n < 1 then 1 else if n ≤ 100000 then (if ¬ dn = 0 then 2 else if ¬ ep_room nt ln n = 0 then 0 else 2) else 1
def ep_kdown (dn : Int32) : Nat := if dn = 0 then 0 else 2
def ep_knote (dn i : Int32) : Nat := if i < 0 then 1 else if i < 24 then (if dn = 0 then 0 else 2) else 1
def ep_kext (ex i w : Int32) : Nat := if ¬ ep_holds ex i = 0 then (if w = 0 then 0 else if w = 1 then 0 else if w = 2 then 0 else if w = 3 then 0 else 1) else 1
def ep_kbyte (ex i k sz : Int32) : Nat := if ¬ ep_holds ex i = 0 then (if k < 0 then 1 else if k < sz then 0 else 1) else 1
def ep_kcrash (dn n : Int32) : Nat := if n < -1 then 1 else if n ≤ 1000 then (if dn = 0 then 0 else 2) else 1
def ep_kcount (dn w : Int32) : Nat := if w < 0 then 1 else if w ≤ 3 then (if dn = 0 then 0 else 2) else 1
def ep_crash (x ln ex ch : Int32) (no wf : ep_F) : Int32 × Int32 × Int32 × Int32 × ep_F × ep_F := if ep_down x = 0 then (ep_down x, ln, ex, ch, no, wf) else (ep_down x, 0, 0, 0, ep_fill 24 0 no, ep_fill 24 0 wf)
def ep_ext (la fi si : ep_F) (i w : Int32) : Int32 := if w = 0 then la i.toNatClampNeg else if w = 1 then fi i.toNatClampNeg else if w = 2 then ep_blocks (si i.toNatClampNeg) else si i.toNatClampNeg
theorem ey_holds {ex x : Int32} (h : ¬ ep_holds ex x = 0) : vp_in x 200 := by
  unfold ep_holds at h
  split at h
  · exact absurd rfl h
  · rename_i h1
    split at h
    · exact absurd rfl h
    · split at h
      · exact absurd rfl h
      · rename_i h3
        refine ey_in200 h1 ?_
        refine Int32.lt_iff_toInt_lt.mpr ?_
        have a : ¬ (200 : Int32).toInt ≤ x.toInt := fun q => h3 (Int32.le_iff_toInt_le.mpr q)
        omega
def ep_count (w ex ch ln : Int32) (fi si : ep_F) (n : Nat) (t : ep_F) : Int32 × ep_F := if w = 0 then (ex, t) else if w = 1 then ep_free fi si ex n t else if w = 2 then (ln, t) else (ch, t)
def ep_doubled (fi si : ep_F) (ex : Int32) (n : Nat) (t : ep_F) : Int32 × ep_F := (ep_db n (ep_ten fi si ex n t) (n + 1) 0 0, ep_ten fi si ex n t)
def ep_cpN (f g : ep_F) : ep_F := va_cpy f g (0 : Int32).toNatClampNeg (0 : Int32).toNatClampNeg (24 : Int32).toNatClampNeg
def ep_recover (nw nx nb : Nat) (pf : ep_F) (a b : ep_M) (wf : ep_F) : Int32 × (Nat × Nat) × ep_M × ep_M × ep_F :=
  if (ep_load nb pf 1 b).2.2 ≤ (ep_load nb pf 0 a).2.2 then ((ep_load nb pf 0 a).1.2.2.2, (nw, nx), ep_load nb pf 0 a, ep_load nb pf 1 b, ep_cpN (ep_load nb pf 0 a).2.1 wf)
  else ((ep_load nb pf 1 b).1.2.2.2, (nx, nw), ep_load nb pf 0 a, ep_load nb pf 1 b, ep_cpN (ep_load nb pf 1 b).2.1 wf)
/-- what the manifest of a change begins with -/
def ep_next (a : ep_M) (fr to : Int32) (wf : ep_F) (b : ep_M) : ep_M := (ep_fol a.1.1 a.1.2.1 a.1.2.2.1 a.1.2.2.2 fr to 201 0 (b.1.1, b.1.2.1, b.1.2.2.1, 0), ep_tn wf 25 0 (ep_fill 24 0 b.2.1), a.2.2 + 1)
def ep_chg (nw nx nb nt n : Nat) (q : ep_P) (tb : ep_F) (ln : Int32) (wf pg te : ep_F) (a : ep_M) (k : ep_M) (label : Int32) : ep_C × ep_F × ep_M :=
  if ln ≤ 0 then (ep_carry nw nx nb nt q tb ln wf pg a.1.2.2.2 a.2.2 a.2.1 k (-1), te, k)
  else if (ep_first a.1.2.1 a.1.2.2.1 a.1.2.2.2 n te (ep_blocks ln)).1 = -1 then ((-2, (nw, nx), q, ln, wf, pg, a.1.2.2.2, a.2.2, a.2.1), (ep_first a.1.2.1 a.1.2.2.1 a.1.2.2.2 n te (ep_blocks ln)).2, k)
  else if ¬ (ep_add k.1 label (ep_first a.1.2.1 a.1.2.2.1 a.1.2.2.2 n te (ep_blocks ln)).1 ln).1 = 0 then
    (ep_carry nw nx nb nt q tb ln wf pg a.1.2.2.2 a.2.2 a.2.1 ((ep_add k.1 label (ep_first a.1.2.1 a.1.2.2.1 a.1.2.2.2 n te (ep_blocks ln)).1 ln).2, k.2) (ep_first a.1.2.1 a.1.2.2.1 a.1.2.2.2 n te (ep_blocks ln)).1,
      (ep_first a.1.2.1 a.1.2.2.1 a.1.2.2.2 n te (ep_blocks ln)).2, ((ep_add k.1 label (ep_first a.1.2.1 a.1.2.2.1 a.1.2.2.2 n te (ep_blocks ln)).1 ln).2, k.2))
  else ((-2, (nw, nx), q, ln, wf, pg, a.1.2.2.2, a.2.2, a.2.1), (ep_first a.1.2.1 a.1.2.2.1 a.1.2.2.2 n te (ep_blocks ln)).2, ((ep_add k.1 label (ep_first a.1.2.1 a.1.2.2.1 a.1.2.2.2 n te (ep_blocks ln)).1 ln).2, k.2))
def ep_size (x : Int32) : Nat := (if 8 < (if x < 128 then x else 128 : Int32) then (if x < 128 then x else 128) else 8 : Int32).toNatClampNeg
theorem ey_size (x : Int32) : (if 8 < (if x < 128 then x else 128 : Int32) then (if x < 128 then x else 128) else 8 : Int32) = nI (ep_size x) ∧ 8 ≤ ep_size x ∧ ep_size x ≤ 128 := by
  have key : ∃ k : Nat, 8 ≤ k ∧ k ≤ 128 ∧ (if 8 < (if x < 128 then x else 128 : Int32) then (if x < 128 then x else 128) else 8 : Int32) = nI k := by
    by_cases h1 : x < 128
    · rw [if_pos h1]
      by_cases h2 : 8 < x
      · rw [if_pos h2]
        have a := Int32.lt_iff_toInt_lt.mp h1
        have b := Int32.lt_iff_toInt_lt.mp h2
        have c8 : (8 : Int32).toInt = 8 := by decide
        have c9 : (128 : Int32).toInt = 128 := by decide
        have h0 : ¬ x < 0 := fun h => by
          have d := Int32.lt_iff_toInt_lt.mp h
          have c0 : (0 : Int32).toInt = 0 := by decide
          omega
        obtain ⟨j, hj, rfl⟩ := nI_of h0
        rw [nI_toInt hj] at a b
        exact ⟨j, by omega, by omega, rfl⟩
      · rw [if_neg h2]
        exact ⟨8, by decide, by decide, by decide⟩
    · rw [if_neg h1]
      exact ⟨128, by decide, by decide, by decide⟩
  obtain ⟨k, h8, h128, e⟩ := key
  have e2 : ep_size x = k := by
    unfold ep_size
    rw [e, nI_clamp (by omega)]
  rw [e2]
  exact ⟨e, h8, h128⟩
theorem ey_sz1 {k : Nat} (h : k ≤ 128) : ¬ nI k * 4096 < 0 := by
  rw [show (4096 : Int32) = nI 4096 from rfl, pk_mul]
  exact nI_pos (by omega)
theorem ey_sz2 {k : Nat} (h : k ≤ 128) : (nI k * 4096).toNatClampNeg = k * 4096 := by
  rw [show (4096 : Int32) = nI 4096 from rfl, pk_mul]
  exact nI_clamp (by omega)
end
section
set_option maxHeartbeats 4000000 in
set_option maxRecDepth 100000 in
/-- limitPower(x) -/
theorem c_pl_limit (l : Launch) (dC : Nat → ClassId) (dI : Nat → Nat → Nat) (cI cB cJ cZ : ClassId) (h0 h1 : Nat) (dn wr pw x : Int32) : ey_Mv l y_P_limitPower w_P_limitPower { frames := 0, cells := 0, slots := 0, locals := 0 } (dC, dI) vwCl (ey_kt cI cB cJ cZ) [.ref h0, .int x] [(h0, .inr (1, [.ref h1, .int dn, .int wr, .int pw]))] (fun (u : Int32) => u = ep_down x) (fun (u : Int32) => [(h0, .inr (1, [.ref h1, .int u, .int wr, .int x]))]) 0 0 := by
  intro sz
  refine Met.ofW (cc := b_P_limitPower) (maxL := 2) (ret := none) (by decide) rfl ?_
  intro p e s m args below meth c s₁ B hml hv
  obtain ⟨rfl, hsz, hP, hK, hG, hD0⟩ := hv
  have hx := B.exec
  have hb := B.bytes
  have hr := B.returns
  have hts := fun (w : Cond) (h : w ∈ ew_T) => atoms_spec (ws := w_P_limitPower) B.pre w (List.mem_cons_of_mem _ h)
  have hown : s.vm.findClass R_P = some m.cls := findClass_of_methodNamed B.named
  have hlocks := B.notSynchronized
  subst hsz
  have hD := hD0.self (sz := s.heap.size)
  generalize hAe : va_A [(h0, .inr (1, [.ref h1, .int dn, .int wr, .int pw]))] s.heap.size = A at hD ⊢
  have hA : ∀ q : Nat, s.heap.size ≤ q → A q := fun q h => by rw [← hAe]; exact Or.inr h
  have hS : va_S A s.heap s.heap [] := va_S.rf
  have hP : va_P (dC, dI) vwCl [(h0, .inr (1, [.ref h1, .int dn, .int wr, .int pw]))] s.heap := hP
  have hl := lv_entry ([.ref h0, .int x]) (n := 2) (Nat.le_of_ble_eq_true rfl)
  rw [lg_entry_eq]
  generalize (lg_sl ([.ref h0, .int x]) ++ List.replicate (2 - (lg_sl ([.ref h0, .int x])).length) Slot.unset).toArray = ls at hl ⊢
  have hl : lv_has ls 2 [(0, .ref h0), (1, .int x)] := hl
  refine lv_aload_n hx hb d_P_limitPower_0 rfl (lv_at hl 0 rfl) ?_
  refine lv_iload_n hx hb d_P_limitPower_1 rfl (lv_at hl 1 rfl) ?_
  refine va_put (D := (dC, dI)) (ci := 1) (v := .int x) (ty := .int) (C := R_P) (T := T_P) (N := 4) hx hb hts in_P t_P t_P_ok n_P hown hK hP hD hS 0 rfl rfl 3 (by decide) (hts _ ew_51) (fun _ h9 => h9) rfl (by decide +kernel) rfl rfl (Nat.le_of_ble_eq_true rfl) d_P_limitPower_2 (fun H locs hP hD hS => ?_)
  have hP : va_P (dC, dI) vwCl [(h0, .inr (1, [.ref h1, .int dn, .int wr, .int x]))] H := hP
  have hD : va_D A [(h0, .inr (1, [.ref h1, .int dn, .int wr, .int x]))] := hD
  refine lv_aload_n hx hb d_P_limitPower_5 rfl (lv_at hl 0 rfl) ?_
  refine lv_iload_n hx hb d_P_limitPower_6 rfl (lv_at hl 1 rfl) ?_
  refine lv_if_ne (tgt := 14) hx hb d_P_limitPower_7 (by decide) (fun c_7 => ?_) (fun c_7 => ?_)
  · refine lv_iconst (v := 0) hx hb d_P_limitPower_14 (by decide) ?_
    refine va_put (D := (dC, dI)) (ci := 1) (v := .int 0) (ty := .boolean) (C := R_P) (T := T_P) (N := 4) hx hb hts in_P t_P t_P_ok n_P hown hK hP hD hS 0 rfl rfl 1 (by decide) (hts _ ew_47) (fun _ h9 => h9) rfl (by decide +kernel) rfl rfl (Nat.le_of_ble_eq_true rfl) d_P_limitPower_15 (fun H locs hP hD hS => ?_)
    have hP : va_P (dC, dI) vwCl [(h0, .inr (1, [.ref h1, .int 0, .int wr, .int x]))] H := hP
    have hD : va_D A [(h0, .inr (1, [.ref h1, .int 0, .int wr, .int x]))] := hD
    exact ey_vret (W1 := fun (u : Int32) => [(h0, .inr (1, [.ref h1, .int u, .int wr, .int x]))]) hx hb hr hlocks hP hD hS 0 [0] rfl (by decide) (by first | contradiction | (simp only [ep_down, ↓reduceIte, not_true_eq_false, not_false_eq_true, c_7])) d_P_limitPower_18 (Nat.le_of_ble_eq_true rfl) (Nat.le_of_ble_eq_true rfl)
  · refine lv_iconst (v := 1) hx hb d_P_limitPower_10 (by decide) ?_
    refine lv_goto (tgt := 15) hx hb d_P_limitPower_11 (by decide) ?_
    refine va_put (D := (dC, dI)) (ci := 1) (v := .int 1) (ty := .boolean) (C := R_P) (T := T_P) (N := 4) hx hb hts in_P t_P t_P_ok n_P hown hK hP hD hS 0 rfl rfl 1 (by decide) (hts _ ew_47) (fun _ h9 => h9) rfl (by decide +kernel) rfl rfl (Nat.le_of_ble_eq_true rfl) d_P_limitPower_15 (fun H locs hP hD hS => ?_)
    have hP : va_P (dC, dI) vwCl [(h0, .inr (1, [.ref h1, .int 1, .int wr, .int x]))] H := hP
    have hD : va_D A [(h0, .inr (1, [.ref h1, .int 1, .int wr, .int x]))] := hD
    exact ey_vret (W1 := fun (u : Int32) => [(h0, .inr (1, [.ref h1, .int u, .int wr, .int x]))]) hx hb hr hlocks hP hD hS 1 [0] rfl (by decide) (by first | contradiction | (simp only [ep_down, ↓reduceIte, not_true_eq_false, not_false_eq_true, c_7])) d_P_limitPower_18 (Nat.le_of_ble_eq_true rfl) (Nat.le_of_ble_eq_true rfl)
set_option maxHeartbeats 4000000 in
set_option maxRecDepth 100000 in
/-- read(x) -/
theorem c_pl_read (l : Launch) (dC : Nat → ClassId) (dI : Nat → Nat → Nat) (cI cB cJ cZ : ClassId) (h0 h1 : Nat) (dn wr pw : Int32) (n : Nat) (f : ep_F) (x : Int32) (hn : n < 2 ^ 31) : ey_Mi l y_P_read w_P_read { frames := 0, cells := 0, slots := 0, locals := 0 } (dC, dI) vwCl (ey_kt cI cB cJ cZ) [.ref h0, .int x] [(h0, .inr (1, [.ref h1, .int dn, .int wr, .int pw])), (h1, .inl (cB, n, .inl f))] (fun (r : Int32) (u : Unit) => r = ep_read n f x) (fun (u : Unit) => [(h0, .inr (1, [.ref h1, .int dn, .int wr, .int pw])), (h1, .inl (cB, n, .inl f))]) 0 0 := by
  intro sz
  refine Met.ofW (cc := b_P_read) (maxL := 2) (ret := (some .int)) (by decide) rfl ?_
  intro p e s m args below meth c s₁ B hml hv
  obtain ⟨rfl, hsz, hP, hK, hG, hD0⟩ := hv
  have hx := B.exec
  have hb := B.bytes
  have hr := B.returns
  have hts := fun (w : Cond) (h : w ∈ ew_T) => atoms_spec (ws := w_P_read) B.pre w (List.mem_cons_of_mem _ h)
  have hown : s.vm.findClass R_P = some m.cls := findClass_of_methodNamed B.named
  have hlocks := B.notSynchronized
  subst hsz
  have hD := hD0.self (sz := s.heap.size)
  generalize hAe : va_A [(h0, .inr (1, [.ref h1, .int dn, .int wr, .int pw])), (h1, .inl (cB, n, .inl f))] s.heap.size = A at hD ⊢
  have hA : ∀ q : Nat, s.heap.size ≤ q → A q := fun q h => by rw [← hAe]; exact Or.inr h
  have hS : va_S A s.heap s.heap [] := va_S.rf
  have hP : va_P (dC, dI) vwCl [(h0, .inr (1, [.ref h1, .int dn, .int wr, .int pw])), (h1, .inl (cB, n, .inl f))] s.heap := hP
  have hl := lv_entry ([.ref h0, .int x]) (n := 2) (Nat.le_of_ble_eq_true rfl)
  rw [lg_entry_eq]
  generalize (lg_sl ([.ref h0, .int x]) ++ List.replicate (2 - (lg_sl ([.ref h0, .int x])).length) Slot.unset).toArray = ls at hl ⊢
  have hl : lv_has ls 2 [(0, .ref h0), (1, .int x)] := hl
  refine lv_iload_n hx hb d_P_read_0 rfl (lv_at hl 1 rfl) ?_
  refine lv_if_lt (tgt := 26) hx hb d_P_read_1 (by decide) (fun c_1 => ?_) (fun c_1 => ?_)
  · refine lv_iconst (v := 0) hx hb d_P_read_26 (by decide) ?_
    exact ey_iret (W1 := fun (u : Unit) => [(h0, .inr (1, [.ref h1, .int dn, .int wr, .int pw])), (h1, .inl (cB, n, .inl f))]) hx hb hr hlocks hP hD hS () [0, 1] rfl (by decide) (by first | contradiction | (simp only [ep_read, ↓reduceIte, not_true_eq_false, not_false_eq_true, c_1])) d_P_read_27 (Nat.le_of_ble_eq_true rfl) (Nat.le_of_ble_eq_true rfl)
  · refine lv_iload_n hx hb d_P_read_4 rfl (lv_at hl 1 rfl) ?_
    refine lv_aload_n hx hb d_P_read_5 rfl (lv_at hl 0 rfl) ?_
    refine va_get (D := (dC, dI)) (ci := 1) (v := .ref h1) (C := R_P) (T := T_P) (N := 4) hx hb hts in_P hown hK hP 0 rfl rfl 0 (by decide) (hts _ ew_46) (fun _ h9 => h9) rfl d_P_read_6 ?_
    refine va_alen hx hb hK hP 1 1 rfl rfl (v := nI n) rfl d_P_read_9 ?_
    refine lv_icmp_ge (tgt := 26) hx hb d_P_read_10 (by decide) (fun c_10 => ?_) (fun c_10 => ?_)
    · refine lv_iconst (v := 0) hx hb d_P_read_26 (by decide) ?_
      exact ey_iret (W1 := fun (u : Unit) => [(h0, .inr (1, [.ref h1, .int dn, .int wr, .int pw])), (h1, .inl (cB, n, .inl f))]) hx hb hr hlocks hP hD hS () [0, 1] rfl (by decide) (by first | contradiction | (simp only [ep_read, ↓reduceIte, not_true_eq_false, not_false_eq_true, c_1, c_10])) d_P_read_27 (Nat.le_of_ble_eq_true rfl) (Nat.le_of_ble_eq_true rfl)
    · refine lv_aload_n hx hb d_P_read_13 rfl (lv_at hl 0 rfl) ?_
      refine va_get (D := (dC, dI)) (ci := 1) (v := .ref h1) (C := R_P) (T := T_P) (N := 4) hx hb hts in_P hown hK hP 0 rfl rfl 0 (by decide) (hts _ ew_46) (fun _ h9 => h9) rfl d_P_read_14 ?_
      refine lv_iload_n hx hb d_P_read_17 rfl (lv_at hl 1 rfl) ?_
      refine va_bald hx hb hK hP 1 1 rfl rfl (ey_in hn c_1 c_10) d_P_read_18 ?_
      refine lv_sipush (v := 255) hx hb d_P_read_19 (by decide) ?_
      refine lv_iand hx hb d_P_read_22 ?_
      refine lv_goto (tgt := 27) hx hb d_P_read_23 (by decide) ?_
      exact ey_iret (W1 := fun (u : Unit) => [(h0, .inr (1, [.ref h1, .int dn, .int wr, .int pw])), (h1, .inl (cB, n, .inl f))]) hx hb hr hlocks hP hD hS () [0, 1] rfl (by decide) (by first | contradiction | (simp only [ep_read, ↓reduceIte, not_true_eq_false, not_false_eq_true, c_1, c_10])) d_P_read_27 (Nat.le_of_ble_eq_true rfl) (Nat.le_of_ble_eq_true rfl)
set_option maxHeartbeats 4000000 in
set_option maxRecDepth 100000 in
/-- readInt(x) -/
theorem c_pl_readInt (l : Launch) (dC : Nat → ClassId) (dI : Nat → Nat → Nat) (cI cB cJ cZ : ClassId) (h0 h1 : Nat) (dn wr pw : Int32) (n : Nat) (f : ep_F) (x : Int32) (hn : n < 2 ^ 31) : ey_Mi l y_P_readInt w_P_readInt { frames := 1, cells := 0, slots := 0, locals := 21 } (dC, dI) vwCl (ey_kt cI cB cJ cZ) [.ref h0, .int x] [(h0, .inr (1, [.ref h1, .int dn, .int wr, .int pw])), (h1, .inl (cB, n, .inl f))] (fun (r : Int32) (u : Unit) => r = ep_readInt n f x) (fun (u : Unit) => [(h0, .inr (1, [.ref h1, .int dn, .int wr, .int pw])), (h1, .inl (cB, n, .inl f))]) 0 0 := by
  intro sz
  refine Met.ofW (cc := b_P_readInt) (maxL := 2) (ret := (some .int)) (by decide) rfl ?_
  intro p e s m args below meth c s₁ B hml hv
  obtain ⟨rfl, hsz, hP, hK, hG, hD0⟩ := hv
  have hx := B.exec
  have hb := B.bytes
  have hr := B.returns
  have hts := fun (w : Cond) (h : w ∈ ew_T) => atoms_spec (ws := w_P_readInt) B.pre w (List.mem_cons_of_mem _ h)
  have hown : s.vm.findClass R_P = some m.cls := findClass_of_methodNamed B.named
  have hlocks := B.notSynchronized
  subst hsz
  have hD := hD0.self (sz := s.heap.size)
  generalize hAe : va_A [(h0, .inr (1, [.ref h1, .int dn, .int wr, .int pw])), (h1, .inl (cB, n, .inl f))] s.heap.size = A at hD ⊢
  have hA : ∀ q : Nat, s.heap.size ≤ q → A q := fun q h => by rw [← hAe]; exact Or.inr h
  have hS : va_S A s.heap s.heap [] := va_S.rf
  have hP : va_P (dC, dI) vwCl [(h0, .inr (1, [.ref h1, .int dn, .int wr, .int pw])), (h1, .inl (cB, n, .inl f))] s.heap := hP
  have hl := lv_entry ([.ref h0, .int x]) (n := 2) (Nat.le_of_ble_eq_true rfl)
  rw [lg_entry_eq]
  generalize (lg_sl ([.ref h0, .int x]) ++ List.replicate (2 - (lg_sl ([.ref h0, .int x])).length) Slot.unset).toArray = ls at hl ⊢
  have hl : lv_has ls 2 [(0, .ref h0), (1, .int x)] := hl
  refine lv_aload_n hx hb d_P_readInt_0 rfl (lv_at hl 0 rfl) ?_
  refine lv_iload_n hx hb d_P_readInt_1 rfl (lv_at hl 1 rfl) ?_
  refine ey_Vi (Wc := [(h0, .inr (1, [.ref h1, .int dn, .int wr, .int pw])), (h1, .inl (cB, n, .inl f))]) (wr := []) (As := [.int x]) (rest := []) ⟨hx, hb, hml, hown, hts⟩ (c_pl_read l dC dI cI cB cJ cZ h0 h1 dn wr pw n f x hn) (cwV 1 hts (ew_V ew_154 ew_155 ew_156 ew_15 g_P_read) rfl rfl rfl (by decide +kernel) ⟨Nat.le_of_ble_eq_true rfl, Nat.le_of_ble_eq_true rfl⟩) hK hG hP hD hS hA [0, 1] [] rfl rfl (by decide) (by decide) (by decide) (ci := 1) (q0 := 0) rfl rfl rfl hl.1 rfl (Nat.le_of_ble_eq_true rfl) d_P_readInt_2 ⟨Nat.le_of_ble_eq_true rfl, Nat.le_of_ble_eq_true rfl⟩ (fun r_1 u_2 H locs e_3 hP hD hS => ?_)
  have hP : va_P (dC, dI) vwCl [(h0, .inr (1, [.ref h1, .int dn, .int wr, .int pw])), (h1, .inl (cB, n, .inl f))] H := hP
  have hD : va_D A [(h0, .inr (1, [.ref h1, .int dn, .int wr, .int pw])), (h1, .inl (cB, n, .inl f))] := hD
  subst e_3
  refine lv_bipush (v := 24) hx hb d_P_readInt_5 (by decide) ?_
  refine lv_ishl hx hb d_P_readInt_7 ?_
  refine lv_aload_n hx hb d_P_readInt_8 rfl (lv_at hl 0 rfl) ?_
  refine lv_iload_n hx hb d_P_readInt_9 rfl (lv_at hl 1 rfl) ?_
  refine lv_iconst (v := 1) hx hb d_P_readInt_10 (by decide) ?_
  refine lv_iadd hx hb d_P_readInt_11 ?_
  refine ey_Vi (Wc := [(h0, .inr (1, [.ref h1, .int dn, .int wr, .int pw])), (h1, .inl (cB, n, .inl f))]) (wr := []) (As := [.int (x + 1)]) (rest := [.int ((ep_read n f x) <<< (24 &&& 31))]) ⟨hx, hb, hml, hown, hts⟩ (c_pl_read l dC dI cI cB cJ cZ h0 h1 dn wr pw n f (x + 1) hn) (cwV 1 hts (ew_V ew_154 ew_155 ew_156 ew_15 g_P_read) rfl rfl rfl (by decide +kernel) ⟨Nat.le_of_ble_eq_true rfl, Nat.le_of_ble_eq_true rfl⟩) hK hG hP hD hS hA [0, 1] [] rfl rfl (by decide) (by decide) (by decide) (ci := 1) (q0 := 0) rfl rfl rfl hl.1 rfl (Nat.le_of_ble_eq_true rfl) d_P_readInt_12 ⟨Nat.le_of_ble_eq_true rfl, Nat.le_of_ble_eq_true rfl⟩ (fun r_4 u_5 H locs e_6 hP hD hS => ?_)
  have hP : va_P (dC, dI) vwCl [(h0, .inr (1, [.ref h1, .int dn, .int wr, .int pw])), (h1, .inl (cB, n, .inl f))] H := hP
  have hD : va_D A [(h0, .inr (1, [.ref h1, .int dn, .int wr, .int pw])), (h1, .inl (cB, n, .inl f))] := hD
  subst e_6
  refine lv_bipush (v := 16) hx hb d_P_readInt_15 (by decide) ?_
  refine lv_ishl hx hb d_P_readInt_17 ?_
  refine lv_ior hx hb d_P_readInt_18 ?_
  refine lv_aload_n hx hb d_P_readInt_19 rfl (lv_at hl 0 rfl) ?_
  refine lv_iload_n hx hb d_P_readInt_20 rfl (lv_at hl 1 rfl) ?_
  refine lv_iconst (v := 2) hx hb d_P_readInt_21 (by decide) ?_
  refine lv_iadd hx hb d_P_readInt_22 ?_
  refine ey_Vi (Wc := [(h0, .inr (1, [.ref h1, .int dn, .int wr, .int pw])), (h1, .inl (cB, n, .inl f))]) (wr := []) (As := [.int (x + 2)]) (rest := [.int (((ep_read n f x) <<< (24 &&& 31)) ||| ((ep_read n f (x + 1)) <<< (16 &&& 31)))]) ⟨hx, hb, hml, hown, hts⟩ (c_pl_read l dC dI cI cB cJ cZ h0 h1 dn wr pw n f (x + 2) hn) (cwV 1 hts (ew_V ew_154 ew_155 ew_156 ew_15 g_P_read) rfl rfl rfl (by decide +kernel) ⟨Nat.le_of_ble_eq_true rfl, Nat.le_of_ble_eq_true rfl⟩) hK hG hP hD hS hA [0, 1] [] rfl rfl (by decide) (by decide) (by decide) (ci := 1) (q0 := 0) rfl rfl rfl hl.1 rfl (Nat.le_of_ble_eq_true rfl) d_P_readInt_23 ⟨Nat.le_of_ble_eq_true rfl, Nat.le_of_ble_eq_true rfl⟩ (fun r_7 u_8 H locs e_9 hP hD hS => ?_)
  have hP : va_P (dC, dI) vwCl [(h0, .inr (1, [.ref h1, .int dn, .int wr, .int pw])), (h1, .inl (cB, n, .inl f))] H := hP
  have hD : va_D A [(h0, .inr (1, [.ref h1, .int dn, .int wr, .int pw])), (h1, .inl (cB, n, .inl f))] := hD
  subst e_9
  refine lv_bipush (v := 8) hx hb d_P_readInt_26 (by decide) ?_
  refine lv_ishl hx hb d_P_readInt_28 ?_
  refine lv_ior hx hb d_P_readInt_29 ?_
  refine lv_aload_n hx hb d_P_readInt_30 rfl (lv_at hl 0 rfl) ?_
  refine lv_iload_n hx hb d_P_readInt_31 rfl (lv_at hl 1 rfl) ?_
  refine lv_iconst (v := 3) hx hb d_P_readInt_32 (by decide) ?_
  refine lv_iadd hx hb d_P_readInt_33 ?_
  refine ey_Vi (Wc := [(h0, .inr (1, [.ref h1, .int dn, .int wr, .int pw])), (h1, .inl (cB, n, .inl f))]) (wr := []) (As := [.int (x + 3)]) (rest := [.int ((((ep_read n f x) <<< (24 &&& 31)) ||| ((ep_read n f (x + 1)) <<< (16 &&& 31))) ||| ((ep_read n f (x + 2)) <<< (8 &&& 31)))]) ⟨hx, hb, hml, hown, hts⟩ (c_pl_read l dC dI cI cB cJ cZ h0 h1 dn wr pw n f (x + 3) hn) (cwV 1 hts (ew_V ew_154 ew_155 ew_156 ew_15 g_P_read) rfl rfl rfl (by decide +kernel) ⟨Nat.le_of_ble_eq_true rfl, Nat.le_of_ble_eq_true rfl⟩) hK hG hP hD hS hA [0, 1] [] rfl rfl (by decide) (by decide) (by decide) (ci := 1) (q0 := 0) rfl rfl rfl hl.1 rfl (Nat.le_of_ble_eq_true rfl) d_P_readInt_34 ⟨Nat.le_of_ble_eq_true rfl, Nat.le_of_ble_eq_true rfl⟩ (fun r_10 u_11 H locs e_12 hP hD hS => ?_)
  have hP : va_P (dC, dI) vwCl [(h0, .inr (1, [.ref h1, .int dn, .int wr, .int pw])), (h1, .inl (cB, n, .inl f))] H := hP
  have hD : va_D A [(h0, .inr (1, [.ref h1, .int dn, .int wr, .int pw])), (h1, .inl (cB, n, .inl f))] := hD
  subst e_12
  refine lv_ior hx hb d_P_readInt_37 ?_
  exact ey_iret (W1 := fun (u : Unit) => [(h0, .inr (1, [.ref h1, .int dn, .int wr, .int pw])), (h1, .inl (cB, n, .inl f))]) hx hb hr hlocks hP hD hS () [0, 1] rfl (by decide) rfl d_P_readInt_38 (Nat.le_of_ble_eq_true rfl) (Nat.le_of_ble_eq_true rfl)
set_option maxHeartbeats 4000000 in
set_option maxRecDepth 100000 in
/-- writeBlock(bl, g, fr) -/
theorem c_pl_write (l : Launch) (dC : Nat → ClassId) (dI : Nat → Nat → Nat) (cI cB cJ cZ : ClassId) (h0 h1 : Nat) (dn wr pw : Int32) (n : Nat) (f : ep_F) (bl : Int32) (h2 ns : Nat) (g : ep_F) (fr : Int32) (hn : n < 2 ^ 30) (hs : ns < 2 ^ 30) (hn4 : 4096 ≤ n) (hs4 : 4096 ≤ ns) (hg : sb_Fit g) : ey_Mi l y_P_writeBlock w_P_writeBlock { frames := 1, cells := 0, slots := 0, locals := 21 } (dC, dI) vwCl (ey_kt cI cB cJ cZ) [.ref h0, .int bl, .ref h2, .int fr] [(h0, .inr (1, [.ref h1, .int dn, .int wr, .int pw])), (h1, .inl (cB, n, .inl f)), (h2, .inl (cB, ns, .inl g))] (fun (r : Int32) (u : ep_P) => (r, u) = ep_write n (f, dn, wr, pw) ns g bl fr) (fun (u : ep_P) => [(h0, .inr (1, [.ref h1, .int u.2.1, .int u.2.2.1, .int u.2.2.2])), (h1, .inl (cB, n, .inl u.1)), (h2, .inl (cB, ns, .inl g))]) 0 0 := by
  intro sz
  refine Met.ofW (cc := b_P_writeBlock) (maxL := 5) (ret := (some .boolean)) (by decide) rfl ?_
  intro p e s m args below meth c s₁ B hml hv
  obtain ⟨rfl, hsz, hP, hK, hG, hD0⟩ := hv
  have hx := B.exec
  have hb := B.bytes
  have hr := B.returns
  have hts := fun (w : Cond) (h : w ∈ ew_T) => atoms_spec (ws := w_P_writeBlock) B.pre w (List.mem_cons_of_mem _ h)
  have hown : s.vm.findClass R_P = some m.cls := findClass_of_methodNamed B.named
  have hlocks := B.notSynchronized
  subst hsz
  have hD := hD0.self (sz := s.heap.size)
  generalize hAe : va_A [(h0, .inr (1, [.ref h1, .int dn, .int wr, .int pw])), (h1, .inl (cB, n, .inl f)), (h2, .inl (cB, ns, .inl g))] s.heap.size = A at hD ⊢
  have hA : ∀ q : Nat, s.heap.size ≤ q → A q := fun q h => by rw [← hAe]; exact Or.inr h
  have hS : va_S A s.heap s.heap [] := va_S.rf
  have hP : va_P (dC, dI) vwCl [(h0, .inr (1, [.ref h1, .int dn, .int wr, .int pw])), (h1, .inl (cB, n, .inl f)), (h2, .inl (cB, ns, .inl g))] s.heap := hP
  have hl := lv_entry ([.ref h0, .int bl, .ref h2, .int fr]) (n := 5) (Nat.le_of_ble_eq_true rfl)
  rw [lg_entry_eq]
  generalize (lg_sl ([.ref h0, .int bl, .ref h2, .int fr]) ++ List.replicate (5 - (lg_sl ([.ref h0, .int bl, .ref h2, .int fr])).length) Slot.unset).toArray = ls at hl ⊢
  have hl : lv_has ls 5 [(0, .ref h0), (1, .int bl), (2, .ref h2), (3, .int fr)] := hl
  refine lv_iload_n hx hb d_P_writeBlock_0 rfl (lv_at hl 1 rfl) ?_
  refine lv_sipush (v := 4096) hx hb d_P_writeBlock_1 (by decide) ?_
  refine lv_imul hx hb d_P_writeBlock_4 ?_
  refine lv_istore (lv' := [(4, .int (bl * 4096)), (0, .ref h0), (1, .int bl), (2, .ref h2), (3, .int fr)]) hx hb d_P_writeBlock_5 hl (by decide) rfl (fun ls hl => ?_)
  refine lv_aload_n hx hb d_P_writeBlock_7 rfl (lv_at hl 1 rfl) ?_
  refine va_get (D := (dC, dI)) (ci := 1) (v := .int dn) (C := R_P) (T := T_P) (N := 4) hx hb hts in_P hown hK hP 0 rfl rfl 1 (by decide) (hts _ ew_47) (fun _ h9 => h9) rfl d_P_writeBlock_8 ?_
  refine lv_if_ne (tgt := 47) hx hb d_P_writeBlock_11 (by decide) (fun c_11 => ?_) (fun c_11 => ?_)
  · refine lv_iconst (v := 0) hx hb d_P_writeBlock_47 (by decide) ?_
    exact ey_zret (W1 := fun (u : ep_P) => [(h0, .inr (1, [.ref h1, .int u.2.1, .int u.2.2.1, .int u.2.2.2])), (h1, .inl (cB, n, .inl u.1)), (h2, .inl (cB, ns, .inl g))]) hx hb hr hlocks hP hD hS (f, dn, wr, pw) [0, 1, 2] rfl (by decide) (by first | contradiction | (simp only [ep_write, ep_not, ↓reduceIte, not_true_eq_false, not_false_eq_true, c_11])) d_P_writeBlock_48 (Nat.le_of_ble_eq_true rfl) (Nat.le_of_ble_eq_true rfl) rfl
  · refine lv_iload hx hb d_P_writeBlock_14 (lv_at hl 0 rfl) ?_
    refine lv_if_lt (tgt := 47) hx hb d_P_writeBlock_16 (by decide) (fun c_16 => ?_) (fun c_16 => ?_)
    · refine lv_iconst (v := 0) hx hb d_P_writeBlock_47 (by decide) ?_
      exact ey_zret (W1 := fun (u : ep_P) => [(h0, .inr (1, [.ref h1, .int u.2.1, .int u.2.2.1, .int u.2.2.2])), (h1, .inl (cB, n, .inl u.1)), (h2, .inl (cB, ns, .inl g))]) hx hb hr hlocks hP hD hS (f, dn, wr, pw) [0, 1, 2] rfl (by decide) (by first | contradiction | (simp only [ep_write, ep_not, ↓reduceIte, not_true_eq_false, not_false_eq_true, c_11, c_16])) d_P_writeBlock_48 (Nat.le_of_ble_eq_true rfl) (Nat.le_of_ble_eq_true rfl) rfl
    · refine lv_iload hx hb d_P_writeBlock_19 (lv_at hl 0 rfl) ?_
      refine lv_aload_n hx hb d_P_writeBlock_21 rfl (lv_at hl 1 rfl) ?_
      refine va_get (D := (dC, dI)) (ci := 1) (v := .ref h1) (C := R_P) (T := T_P) (N := 4) hx hb hts in_P hown hK hP 0 rfl rfl 0 (by decide) (hts _ ew_46) (fun _ h9 => h9) rfl d_P_writeBlock_22 ?_
      refine va_alen hx hb hK hP 1 1 rfl rfl (v := nI n) rfl d_P_writeBlock_25 ?_
      refine lv_sipush (v := 4096) hx hb d_P_writeBlock_26 (by decide) ?_
      refine lv_isub hx hb d_P_writeBlock_29 ?_
      refine lv_icmp_gt (tgt := 47) hx hb d_P_writeBlock_30 (by decide) (fun c_30 => ?_) (fun c_30 => ?_)
      · refine lv_iconst (v := 0) hx hb d_P_writeBlock_47 (by decide) ?_
        exact ey_zret (W1 := fun (u : ep_P) => [(h0, .inr (1, [.ref h1, .int u.2.1, .int u.2.2.1, .int u.2.2.2])), (h1, .inl (cB, n, .inl u.1)), (h2, .inl (cB, ns, .inl g))]) hx hb hr hlocks hP hD hS (f, dn, wr, pw) [0, 1, 2] rfl (by decide) (by first | contradiction | (simp only [ep_write, ep_not, ↓reduceIte, not_true_eq_false, not_false_eq_true, c_11, c_16, c_30])) d_P_writeBlock_48 (Nat.le_of_ble_eq_true rfl) (Nat.le_of_ble_eq_true rfl) rfl
      · refine lv_iload_n hx hb d_P_writeBlock_33 rfl (lv_at hl 4 rfl) ?_
        refine lv_if_lt (tgt := 47) hx hb d_P_writeBlock_34 (by decide) (fun c_34 => ?_) (fun c_34 => ?_)
        · refine lv_iconst (v := 0) hx hb d_P_writeBlock_47 (by decide) ?_
          exact ey_zret (W1 := fun (u : ep_P) => [(h0, .inr (1, [.ref h1, .int u.2.1, .int u.2.2.1, .int u.2.2.2])), (h1, .inl (cB, n, .inl u.1)), (h2, .inl (cB, ns, .inl g))]) hx hb hr hlocks hP hD hS (f, dn, wr, pw) [0, 1, 2] rfl (by decide) (by first | contradiction | (simp only [ep_write, ep_not, ↓reduceIte, not_true_eq_false, not_false_eq_true, c_11, c_16, c_30, c_34])) d_P_writeBlock_48 (Nat.le_of_ble_eq_true rfl) (Nat.le_of_ble_eq_true rfl) rfl
        · refine lv_iload_n hx hb d_P_writeBlock_37 rfl (lv_at hl 4 rfl) ?_
          refine lv_aload_n hx hb d_P_writeBlock_38 rfl (lv_at hl 3 rfl) ?_
          refine va_alen hx hb hK hP 2 1 rfl rfl (v := nI ns) rfl d_P_writeBlock_39 ?_
          refine lv_sipush (v := 4096) hx hb d_P_writeBlock_40 (by decide) ?_
          refine lv_isub hx hb d_P_writeBlock_43 ?_
          refine lv_icmp_le (tgt := 49) hx hb d_P_writeBlock_44 (by decide) (fun c_44 => ?_) (fun c_44 => ?_)
          · refine lv_aload_n hx hb d_P_writeBlock_49 rfl (lv_at hl 3 rfl) ?_
            refine lv_iload_n hx hb d_P_writeBlock_50 rfl (lv_at hl 4 rfl) ?_
            refine lv_aload_n hx hb d_P_writeBlock_51 rfl (lv_at hl 1 rfl) ?_
            refine va_get (D := (dC, dI)) (ci := 1) (v := .ref h1) (C := R_P) (T := T_P) (N := 4) hx hb hts in_P hown hK hP 0 rfl rfl 0 (by decide) (hts _ ew_46) (fun _ h9 => h9) rfl d_P_writeBlock_52 ?_
            refine lv_iload hx hb d_P_writeBlock_55 (lv_at hl 0 rfl) ?_
            refine lv_sipush (v := 4096) hx hb d_P_writeBlock_57 (by decide) ?_
            refine va_copyi hx hb (by rw [hml]; exact hl.1.symm) hown (hts _ ew_349) (hts _ ew_169) (hts _ ew_168) (hts _ ew_25) hK hP hD hS 2 1 1 1 rfl rfl rfl rfl rfl c_34 c_16 (by decide) (ey_cp hs hs4 c_34 c_44) (ey_cp2 hn hn4 c_16 c_30) (fun i _ => hg _) (Nat.le_of_ble_eq_true rfl) (Nat.le_of_ble_eq_true rfl) d_P_writeBlock_60 (fun H locs hP hD hS => ?_)
            have hP : va_P (dC, dI) vwCl [(h0, .inr (1, [.ref h1, .int dn, .int wr, .int pw])), (h1, .inl (cB, n, .inl (va_cpy g f fr.toNatClampNeg (bl * 4096).toNatClampNeg (4096 : Int32).toNatClampNeg))), (h2, .inl (cB, ns, .inl g))] H := hP
            have hD : va_D A [(h0, .inr (1, [.ref h1, .int dn, .int wr, .int pw])), (h1, .inl (cB, n, .inl (va_cpy g f fr.toNatClampNeg (bl * 4096).toNatClampNeg (4096 : Int32).toNatClampNeg))), (h2, .inl (cB, ns, .inl g))] := hD
            refine lv_aload_n hx hb d_P_writeBlock_63 rfl (lv_at hl 1 rfl) ?_
            refine lv_dup hx hb d_P_writeBlock_64 rfl ?_
            refine va_get (D := (dC, dI)) (ci := 1) (v := .int wr) (C := R_P) (T := T_P) (N := 4) hx hb hts in_P hown hK hP 0 rfl rfl 2 (by decide) (hts _ ew_49) (fun _ h9 => h9) rfl d_P_writeBlock_65 ?_
            refine lv_iconst (v := 1) hx hb d_P_writeBlock_68 (by decide) ?_
            refine lv_iadd hx hb d_P_writeBlock_69 ?_
            refine va_put (D := (dC, dI)) (ci := 1) (v := .int (wr + 1)) (ty := .int) (C := R_P) (T := T_P) (N := 4) hx hb hts in_P t_P t_P_ok n_P hown hK hP hD hS 0 rfl rfl 2 (by decide) (hts _ ew_49) (fun _ h9 => h9) rfl (by decide +kernel) rfl rfl (Nat.le_of_ble_eq_true rfl) d_P_writeBlock_70 (fun H locs hP hD hS => ?_)
            have hP : va_P (dC, dI) vwCl [(h0, .inr (1, [.ref h1, .int dn, .int (wr + 1), .int pw])), (h1, .inl (cB, n, .inl (va_cpy g f fr.toNatClampNeg (bl * 4096).toNatClampNeg (4096 : Int32).toNatClampNeg))), (h2, .inl (cB, ns, .inl g))] H := hP
            have hD : va_D A [(h0, .inr (1, [.ref h1, .int dn, .int (wr + 1), .int pw])), (h1, .inl (cB, n, .inl (va_cpy g f fr.toNatClampNeg (bl * 4096).toNatClampNeg (4096 : Int32).toNatClampNeg))), (h2, .inl (cB, ns, .inl g))] := hD
            refine lv_aload_n hx hb d_P_writeBlock_73 rfl (lv_at hl 1 rfl) ?_
            refine va_get (D := (dC, dI)) (ci := 1) (v := .int pw) (C := R_P) (T := T_P) (N := 4) hx hb hts in_P hown hK hP 0 rfl rfl 3 (by decide) (hts _ ew_51) (fun _ h9 => h9) rfl d_P_writeBlock_74 ?_
            refine lv_if_le (tgt := 90) hx hb d_P_writeBlock_77 (by decide) (fun c_77 => ?_) (fun c_77 => ?_)
            · refine lv_aload_n hx hb d_P_writeBlock_90 rfl (lv_at hl 1 rfl) ?_
              refine va_get (D := (dC, dI)) (ci := 1) (v := .int dn) (C := R_P) (T := T_P) (N := 4) hx hb hts in_P hown hK hP 0 rfl rfl 1 (by decide) (hts _ ew_47) (fun _ h9 => h9) rfl d_P_writeBlock_91 ?_
              refine lv_if_ne (tgt := 101) hx hb d_P_writeBlock_94 (by decide) (fun c_94 => ?_) (fun c_94 => ?_)
              · refine lv_iconst (v := 0) hx hb d_P_writeBlock_101 (by decide) ?_
                exact ey_zret (W1 := fun (u : ep_P) => [(h0, .inr (1, [.ref h1, .int u.2.1, .int u.2.2.1, .int u.2.2.2])), (h1, .inl (cB, n, .inl u.1)), (h2, .inl (cB, ns, .inl g))]) hx hb hr hlocks hP hD hS (va_cpy g f fr.toNatClampNeg (bl * 4096).toNatClampNeg (4096 : Int32).toNatClampNeg, dn, wr + 1, pw) [0, 1, 2] rfl (by decide) (by first | contradiction | (simp only [ep_write, ep_not, ↓reduceIte, not_true_eq_false, not_false_eq_true, c_11, c_16, c_30, c_34, c_44, c_77, c_94])) d_P_writeBlock_102 (Nat.le_of_ble_eq_true rfl) (Nat.le_of_ble_eq_true rfl) rfl
              · refine lv_iconst (v := 1) hx hb d_P_writeBlock_97 (by decide) ?_
                refine lv_goto (tgt := 102) hx hb d_P_writeBlock_98 (by decide) ?_
                exact ey_zret (W1 := fun (u : ep_P) => [(h0, .inr (1, [.ref h1, .int u.2.1, .int u.2.2.1, .int u.2.2.2])), (h1, .inl (cB, n, .inl u.1)), (h2, .inl (cB, ns, .inl g))]) hx hb hr hlocks hP hD hS (va_cpy g f fr.toNatClampNeg (bl * 4096).toNatClampNeg (4096 : Int32).toNatClampNeg, dn, wr + 1, pw) [0, 1, 2] rfl (by decide) (by first | contradiction | (simp only [ep_write, ep_not, ↓reduceIte, not_true_eq_false, not_false_eq_true, c_11, c_16, c_30, c_34, c_44, c_77, c_94])) d_P_writeBlock_102 (Nat.le_of_ble_eq_true rfl) (Nat.le_of_ble_eq_true rfl) rfl
            · refine lv_aload_n hx hb d_P_writeBlock_80 rfl (lv_at hl 1 rfl) ?_
              refine lv_aload_n hx hb d_P_writeBlock_81 rfl (lv_at hl 1 rfl) ?_
              refine va_get (D := (dC, dI)) (ci := 1) (v := .int pw) (C := R_P) (T := T_P) (N := 4) hx hb hts in_P hown hK hP 0 rfl rfl 3 (by decide) (hts _ ew_51) (fun _ h9 => h9) rfl d_P_writeBlock_82 ?_
              refine lv_iconst (v := 1) hx hb d_P_writeBlock_85 (by decide) ?_
              refine lv_isub hx hb d_P_writeBlock_86 ?_
              refine ey_Vv (Wc := [(h0, .inr (1, [.ref h1, .int dn, .int (wr + 1), .int pw]))]) (wr := [(h1, .inl (cB, n, .inl (va_cpy g f fr.toNatClampNeg (bl * 4096).toNatClampNeg (4096 : Int32).toNatClampNeg))), (h2, .inl (cB, ns, .inl g))]) (As := [.int (pw - 1)]) (rest := []) ⟨hx, hb, hml, hown, hts⟩ (c_pl_limit l dC dI cI cB cJ cZ h0 h1 dn (wr + 1) pw (pw - 1)) (cwV 1 hts (ew_V ew_350 ew_136 ew_137 ew_15 g_P_limitPower) rfl rfl rfl (by decide +kernel) ⟨Nat.le_of_ble_eq_true rfl, Nat.le_of_ble_eq_true rfl⟩) hK hG hP hD hS hA [0] [1, 2] rfl rfl (by decide) (by decide) (by decide) (ci := 1) (q0 := 0) rfl rfl rfl hl.1 rfl (Nat.le_of_ble_eq_true rfl) d_P_writeBlock_87 ⟨Nat.le_of_ble_eq_true rfl, Nat.le_of_ble_eq_true rfl⟩ (fun u_2 H locs e_3 hP hD hS => ?_)
              have hP : va_P (dC, dI) vwCl [(h1, .inl (cB, n, .inl (va_cpy g f fr.toNatClampNeg (bl * 4096).toNatClampNeg (4096 : Int32).toNatClampNeg))), (h2, .inl (cB, ns, .inl g)), (h0, .inr (1, [.ref h1, .int u_2, .int (wr + 1), .int (pw - 1)]))] H := hP
              have hD : va_D A [(h1, .inl (cB, n, .inl (va_cpy g f fr.toNatClampNeg (bl * 4096).toNatClampNeg (4096 : Int32).toNatClampNeg))), (h2, .inl (cB, ns, .inl g)), (h0, .inr (1, [.ref h1, .int u_2, .int (wr + 1), .int (pw - 1)]))] := hD
              subst e_3
              refine lv_aload_n hx hb d_P_writeBlock_90 rfl (lv_at hl 1 rfl) ?_
              refine va_get (D := (dC, dI)) (ci := 1) (v := .int (ep_down (pw - 1))) (C := R_P) (T := T_P) (N := 4) hx hb hts in_P hown hK hP 2 rfl rfl 1 (by decide) (hts _ ew_47) (fun _ h9 => h9) rfl d_P_writeBlock_91 ?_
              refine lv_if_ne (tgt := 101) hx hb d_P_writeBlock_94 (by decide) (fun c_94 => ?_) (fun c_94 => ?_)
              · refine lv_iconst (v := 0) hx hb d_P_writeBlock_101 (by decide) ?_
                exact ey_zret (W1 := fun (u : ep_P) => [(h0, .inr (1, [.ref h1, .int u.2.1, .int u.2.2.1, .int u.2.2.2])), (h1, .inl (cB, n, .inl u.1)), (h2, .inl (cB, ns, .inl g))]) hx hb hr hlocks hP hD hS (va_cpy g f fr.toNatClampNeg (bl * 4096).toNatClampNeg (4096 : Int32).toNatClampNeg, (ep_down (pw - 1)), wr + 1, pw - 1) [2, 0, 1] rfl (by decide) (by first | contradiction | (simp only [ep_write, ep_not, ↓reduceIte, not_true_eq_false, not_false_eq_true, c_11, c_16, c_30, c_34, c_44, c_77, c_94])) d_P_writeBlock_102 (Nat.le_of_ble_eq_true rfl) (Nat.le_of_ble_eq_true rfl) rfl
              · refine lv_iconst (v := 1) hx hb d_P_writeBlock_97 (by decide) ?_
                refine lv_goto (tgt := 102) hx hb d_P_writeBlock_98 (by decide) ?_
                exact ey_zret (W1 := fun (u : ep_P) => [(h0, .inr (1, [.ref h1, .int u.2.1, .int u.2.2.1, .int u.2.2.2])), (h1, .inl (cB, n, .inl u.1)), (h2, .inl (cB, ns, .inl g))]) hx hb hr hlocks hP hD hS (va_cpy g f fr.toNatClampNeg (bl * 4096).toNatClampNeg (4096 : Int32).toNatClampNeg, (ep_down (pw - 1)), wr + 1, pw - 1) [2, 0, 1] rfl (by decide) (by first | contradiction | (simp only [ep_write, ep_not, ↓reduceIte, not_true_eq_false, not_false_eq_true, c_11, c_16, c_30, c_34, c_44, c_77, c_94])) d_P_writeBlock_102 (Nat.le_of_ble_eq_true rfl) (Nat.le_of_ble_eq_true rfl) rfl
          · refine lv_iconst (v := 0) hx hb d_P_writeBlock_47 (by decide) ?_
            exact ey_zret (W1 := fun (u : ep_P) => [(h0, .inr (1, [.ref h1, .int u.2.1, .int u.2.2.1, .int u.2.2.2])), (h1, .inl (cB, n, .inl u.1)), (h2, .inl (cB, ns, .inl g))]) hx hb hr hlocks hP hD hS (f, dn, wr, pw) [0, 1, 2] rfl (by decide) (by first | contradiction | (simp only [ep_write, ep_not, ↓reduceIte, not_true_eq_false, not_false_eq_true, c_11, c_16, c_30, c_34, c_44])) d_P_writeBlock_48 (Nat.le_of_ble_eq_true rfl) (Nat.le_of_ble_eq_true rfl) rfl
end
section
set_option maxHeartbeats 4000000 in
set_option maxRecDepth 100000 in
theorem c_tp_room (l : Launch) (dC : Nat → ClassId) (dI : Nat → Nat → Nat) (cI cB cJ cZ : ClassId) (h0 h1 : Nat) (ln : Int32) (n : Nat) (f : ep_F) (x : Int32) : ey_Mi l y_Tp_hasRoomFor w_Tp_hasRoomFor { frames := 0, cells := 0, slots := 0, locals := 0 } (dC, dI) vwCl (ey_kt cI cB cJ cZ) [.ref h0, .int x] [(h0, .inr (2, [.ref h1, .int ln])), (h1, .inl (cB, n, .inl f))] (fun (r : Int32) (u : Unit) => r = ep_room n ln x) (fun (u : Unit) => [(h0, .inr (2, [.ref h1, .int ln])), (h1, .inl (cB, n, .inl f))]) 0 0 := by
  intro sz
  refine Met.ofW (cc := b_Tp_hasRoomFor) (maxL := 2) (ret := (some .boolean)) (by decide) rfl ?_
  intro p e s m args below meth c s₁ B hml hv
  obtain ⟨rfl, hsz, hP, hK, hG, hD0⟩ := hv
  have hx := B.exec
  have hb := B.bytes
  have hr := B.returns
  have hts := fun (w : Cond) (h : w ∈ ew_T) => atoms_spec (ws := w_Tp_hasRoomFor) B.pre w (List.mem_cons_of_mem _ h)
  have hown : s.vm.findClass R_Tp = some m.cls := findClass_of_methodNamed B.named
  have hlocks := B.notSynchronized
  subst hsz
  have hD := hD0.self (sz := s.heap.size)
  generalize hAe : va_A [(h0, .inr (2, [.ref h1, .int ln])), (h1, .inl (cB, n, .inl f))] s.heap.size = A at hD ⊢
  have hA : ∀ q : Nat, s.heap.size ≤ q → A q := fun q h => by rw [← hAe]; exact Or.inr h
  have hS : va_S A s.heap s.heap [] := va_S.rf
  have hP : va_P (dC, dI) vwCl [(h0, .inr (2, [.ref h1, .int ln])), (h1, .inl (cB, n, .inl f))] s.heap := hP
  have hl := lv_entry ([.ref h0, .int x]) (n := 2) (Nat.le_of_ble_eq_true rfl)
  rw [lg_entry_eq]
  generalize (lg_sl ([.ref h0, .int x]) ++ List.replicate (2 - (lg_sl ([.ref h0, .int x])).length) Slot.unset).toArray = ls at hl ⊢
  have hl : lv_has ls 2 [(0, .ref h0), (1, .int x)] := hl
  refine lv_iload_n hx hb d_Tp_hasRoomFor_0 rfl (lv_at hl 1 rfl) ?_
  refine lv_aload_n hx hb d_Tp_hasRoomFor_1 rfl (lv_at hl 0 rfl) ?_
  refine va_get (D := (dC, dI)) (ci := 2) (v := .ref h1) (C := R_Tp) (T := T_Tp) (N := 2) hx hb hts in_Tp hown hK hP 0 rfl rfl 0 (by decide) (hts _ ew_68) (fun _ h9 => h9) rfl d_Tp_hasRoomFor_2 ?_
  refine va_alen hx hb hK hP 1 1 rfl rfl (v := nI n) rfl d_Tp_hasRoomFor_5 ?_
  refine lv_aload_n hx hb d_Tp_hasRoomFor_6 rfl (lv_at hl 0 rfl) ?_
  refine va_get (D := (dC, dI)) (ci := 2) (v := .int ln) (C := R_Tp) (T := T_Tp) (N := 2) hx hb hts in_Tp hown hK hP 0 rfl rfl 1 (by decide) (hts _ ew_70) (fun _ h9 => h9) rfl d_Tp_hasRoomFor_7 ?_
  refine lv_isub hx hb d_Tp_hasRoomFor_10 ?_
  refine lv_icmp_gt (tgt := 18) hx hb d_Tp_hasRoomFor_11 (by decide) (fun c_11 => ?_) (fun c_11 => ?_)
  · refine lv_iconst (v := 0) hx hb d_Tp_hasRoomFor_18 (by decide) ?_
    exact ey_zret (W1 := fun (u : Unit) => [(h0, .inr (2, [.ref h1, .int ln])), (h1, .inl (cB, n, .inl f))]) hx hb hr hlocks hP hD hS () [0, 1] rfl (by decide) (by first | contradiction | (simp only [ep_room, ↓reduceIte, not_true_eq_false, not_false_eq_true, c_11])) d_Tp_hasRoomFor_19 (Nat.le_of_ble_eq_true rfl) (Nat.le_of_ble_eq_true rfl) rfl
  · refine lv_iconst (v := 1) hx hb d_Tp_hasRoomFor_14 (by decide) ?_
    refine lv_goto (tgt := 19) hx hb d_Tp_hasRoomFor_15 (by decide) ?_
    exact ey_zret (W1 := fun (u : Unit) => [(h0, .inr (2, [.ref h1, .int ln])), (h1, .inl (cB, n, .inl f))]) hx hb hr hlocks hP hD hS () [0, 1] rfl (by decide) (by first | contradiction | (simp only [ep_room, ↓reduceIte, not_true_eq_false, not_false_eq_true, c_11])) d_Tp_hasRoomFor_19 (Nat.le_of_ble_eq_true rfl) (Nat.le_of_ble_eq_true rfl) rfl
set_option maxHeartbeats 4000000 in
set_option maxRecDepth 100000 in
theorem c_tp_app (l : Launch) (dC : Nat → ClassId) (dI : Nat → Nat → Nat) (cI cB cJ cZ : ClassId) (h0 h1 : Nat) (ln : Int32) (n : Nat) (f : ep_F) (x : Int32) (hn : n < 2 ^ 31) : ey_Mv l y_Tp_append w_Tp_append { frames := 0, cells := 0, slots := 0, locals := 0 } (dC, dI) vwCl (ey_kt cI cB cJ cZ) [.ref h0, .int x] [(h0, .inr (2, [.ref h1, .int ln])), (h1, .inl (cB, n, .inl f))] (fun (u : ep_T) => u = ep_app n (f, ln) x) (fun (u : ep_T) => [(h0, .inr (2, [.ref h1, .int u.2])), (h1, .inl (cB, n, .inl u.1))]) 0 0 := by
  intro sz
  refine Met.ofW (cc := b_Tp_append) (maxL := 2) (ret := none) (by decide) rfl ?_
  intro p e s m args below meth c s₁ B hml hv
  obtain ⟨rfl, hsz, hP, hK, hG, hD0⟩ := hv
  have hx := B.exec
  have hb := B.bytes
  have hr := B.returns
  have hts := fun (w : Cond) (h : w ∈ ew_T) => atoms_spec (ws := w_Tp_append) B.pre w (List.mem_cons_of_mem _ h)
  have hown : s.vm.findClass R_Tp = some m.cls := findClass_of_methodNamed B.named
  have hlocks := B.notSynchronized
  subst hsz
  have hD := hD0.self (sz := s.heap.size)
  generalize hAe : va_A [(h0, .inr (2, [.ref h1, .int ln])), (h1, .inl (cB, n, .inl f))] s.heap.size = A at hD ⊢
  have hA : ∀ q : Nat, s.heap.size ≤ q → A q := fun q h => by rw [← hAe]; exact Or.inr h
  have hS : va_S A s.heap s.heap [] := va_S.rf
  have hP : va_P (dC, dI) vwCl [(h0, .inr (2, [.ref h1, .int ln])), (h1, .inl (cB, n, .inl f))] s.heap := hP
  have hl := lv_entry ([.ref h0, .int x]) (n := 2) (Nat.le_of_ble_eq_true rfl)
  rw [lg_entry_eq]
  generalize (lg_sl ([.ref h0, .int x]) ++ List.replicate (2 - (lg_sl ([.ref h0, .int x])).length) Slot.unset).toArray = ls at hl ⊢
  have hl : lv_has ls 2 [(0, .ref h0), (1, .int x)] := hl
  refine lv_aload_n hx hb d_Tp_append_0 rfl (lv_at hl 0 rfl) ?_
  refine va_get (D := (dC, dI)) (ci := 2) (v := .int ln) (C := R_Tp) (T := T_Tp) (N := 2) hx hb hts in_Tp hown hK hP 0 rfl rfl 1 (by decide) (hts _ ew_70) (fun _ h9 => h9) rfl d_Tp_append_1 ?_
  refine lv_if_lt (tgt := 39) hx hb d_Tp_append_4 (by decide) (fun c_4 => ?_) (fun c_4 => ?_)
  · exact ey_vret (W1 := fun (u : ep_T) => [(h0, .inr (2, [.ref h1, .int u.2])), (h1, .inl (cB, n, .inl u.1))]) hx hb hr hlocks hP hD hS (f, ln) [0, 1] rfl (by decide) (by first | contradiction | (simp only [ep_app, ↓reduceIte, not_true_eq_false, not_false_eq_true, c_4])) d_Tp_append_39 (Nat.le_of_ble_eq_true rfl) (Nat.le_of_ble_eq_true rfl)
  · refine lv_aload_n hx hb d_Tp_append_7 rfl (lv_at hl 0 rfl) ?_
    refine va_get (D := (dC, dI)) (ci := 2) (v := .int ln) (C := R_Tp) (T := T_Tp) (N := 2) hx hb hts in_Tp hown hK hP 0 rfl rfl 1 (by decide) (hts _ ew_70) (fun _ h9 => h9) rfl d_Tp_append_8 ?_
    refine lv_aload_n hx hb d_Tp_append_11 rfl (lv_at hl 0 rfl) ?_
    refine va_get (D := (dC, dI)) (ci := 2) (v := .ref h1) (C := R_Tp) (T := T_Tp) (N := 2) hx hb hts in_Tp hown hK hP 0 rfl rfl 0 (by decide) (hts _ ew_68) (fun _ h9 => h9) rfl d_Tp_append_12 ?_
    refine va_alen hx hb hK hP 1 1 rfl rfl (v := nI n) rfl d_Tp_append_15 ?_
    refine lv_icmp_ge (tgt := 39) hx hb d_Tp_append_16 (by decide) (fun c_16 => ?_) (fun c_16 => ?_)
    · exact ey_vret (W1 := fun (u : ep_T) => [(h0, .inr (2, [.ref h1, .int u.2])), (h1, .inl (cB, n, .inl u.1))]) hx hb hr hlocks hP hD hS (f, ln) [0, 1] rfl (by decide) (by first | contradiction | (simp only [ep_app, ↓reduceIte, not_true_eq_false, not_false_eq_true, c_4, c_16])) d_Tp_append_39 (Nat.le_of_ble_eq_true rfl) (Nat.le_of_ble_eq_true rfl)
    · refine lv_aload_n hx hb d_Tp_append_19 rfl (lv_at hl 0 rfl) ?_
      refine va_get (D := (dC, dI)) (ci := 2) (v := .ref h1) (C := R_Tp) (T := T_Tp) (N := 2) hx hb hts in_Tp hown hK hP 0 rfl rfl 0 (by decide) (hts _ ew_68) (fun _ h9 => h9) rfl d_Tp_append_20 ?_
      refine lv_aload_n hx hb d_Tp_append_23 rfl (lv_at hl 0 rfl) ?_
      refine va_get (D := (dC, dI)) (ci := 2) (v := .int ln) (C := R_Tp) (T := T_Tp) (N := 2) hx hb hts in_Tp hown hK hP 0 rfl rfl 1 (by decide) (hts _ ew_70) (fun _ h9 => h9) rfl d_Tp_append_24 ?_
      refine lv_iload_n hx hb d_Tp_append_27 rfl (lv_at hl 1 rfl) ?_
      refine va_bast hx hb hK hP hD hS 1 1 rfl rfl (ey_in hn c_4 c_16) d_Tp_append_28 (fun H locs hP hD hS => ?_)
      have hP : va_P (dC, dI) vwCl [(h0, .inr (2, [.ref h1, .int ln])), (h1, .inl (cB, n, .inl (upd f ln.toNatClampNeg (vp_nar .byte x))))] H := hP
      have hD : va_D A [(h0, .inr (2, [.ref h1, .int ln])), (h1, .inl (cB, n, .inl (upd f ln.toNatClampNeg (vp_nar .byte x))))] := hD
      refine lv_aload_n hx hb d_Tp_append_29 rfl (lv_at hl 0 rfl) ?_
      refine lv_dup hx hb d_Tp_append_30 rfl ?_
      refine va_get (D := (dC, dI)) (ci := 2) (v := .int ln) (C := R_Tp) (T := T_Tp) (N := 2) hx hb hts in_Tp hown hK hP 0 rfl rfl 1 (by decide) (hts _ ew_70) (fun _ h9 => h9) rfl d_Tp_append_31 ?_
      refine lv_iconst (v := 1) hx hb d_Tp_append_34 (by decide) ?_
      refine lv_iadd hx hb d_Tp_append_35 ?_
      refine va_put (D := (dC, dI)) (ci := 2) (v := .int (ln + 1)) (ty := .int) (C := R_Tp) (T := T_Tp) (N := 2) hx hb hts in_Tp t_Tp t_Tp_ok n_Tp hown hK hP hD hS 0 rfl rfl 1 (by decide) (hts _ ew_70) (fun _ h9 => h9) rfl (by decide +kernel) rfl rfl (Nat.le_of_ble_eq_true rfl) d_Tp_append_36 (fun H locs hP hD hS => ?_)
      have hP : va_P (dC, dI) vwCl [(h0, .inr (2, [.ref h1, .int (ln + 1)])), (h1, .inl (cB, n, .inl (upd f ln.toNatClampNeg (vp_nar .byte x))))] H := hP
      have hD : va_D A [(h0, .inr (2, [.ref h1, .int (ln + 1)])), (h1, .inl (cB, n, .inl (upd f ln.toNatClampNeg (vp_nar .byte x))))] := hD
      exact ey_vret (W1 := fun (u : ep_T) => [(h0, .inr (2, [.ref h1, .int u.2])), (h1, .inl (cB, n, .inl u.1))]) hx hb hr hlocks hP hD hS (upd f ln.toNatClampNeg (vp_nar .byte x), ln + 1) [0, 1] rfl (by decide) (by first | contradiction | (simp only [ep_app, ↓reduceIte, not_true_eq_false, not_false_eq_true, c_4, c_16])) d_Tp_append_39 (Nat.le_of_ble_eq_true rfl) (Nat.le_of_ble_eq_true rfl)
end
section
set_option maxHeartbeats 4000000 in
set_option maxRecDepth 100000 in
theorem c_ar_fill_L {p : Program} {l : Launch} {e : Env} {s : State} {m : MethodId} {args : Array Value} {below : List Frame} {meth : Method} {c : Code} {dC : Nat → ClassId} {dI : Nat → Nat → Nat} {cI cB cJ cZ : ClassId} {A : Nat → Prop} {h0 n : Nat} {f : ep_F} {x : Int32} (hn : n < 2 ^ 31) (hK : va_K (dC, dI) vwCl (ey_kt cI cB cJ cZ) s) (hG : ex_G s) (C0 : ey_Cx p s m args meth c b_A_fill 4 R_A ew_T none A)  :
    ∀ (fuel : Nat) (i : Nat) (g : ep_F) (hi : i + fuel = n + 1) (hin : i ≤ n) (hg : ∀ j, g j = if j < i then x else f j), ∀ (H : Heap) (locs : List Loc), va_P (dC, dI) vwCl [(h0, .inl (cI, n, .inl g))] H → va_D A [(h0, .inl (cI, n, .inl g))] → va_S A s.heap H locs → ∀ (ls : Array Slot), lv_has ls 4 [(0, .ref h0), (1, .int x), (2, .int (nI i)), (3, .int (nI n))] → W p l e { frames := 0, cells := 0, slots := 0, locals := 0 } s m args below meth c H locs 0 0 (MQ below (va_Qv (fun (u : ep_F) => u = ep_fill n x f) (fun u t => ey_Post (dC, dI) vwCl A ((fun (u : ep_F) => [(h0, .inl (cI, n, .inl u))]) u) t) A) args s 0 0 A) (F0 m 5 ls []) := by
  obtain ⟨hx, hb, hml, hown, hts, hr, hlocks, hA⟩ := id C0
  intro fuel
  induction fuel with
  | zero =>
    intro i g hi hin hg H locs hP hD hS ls hl
    exact absurd hi (by omega)
  | succ fuel ih =>
    intro i g hi hin hg H locs hP hD hS ls hl
    refine lv_iload_n hx hb d_A_fill_5 rfl (lv_at hl 2 rfl) ?_
    refine lv_iload_n hx hb d_A_fill_6 rfl (lv_at hl 3 rfl) ?_
    refine lv_icmp_ge (tgt := 20) hx hb d_A_fill_7 (by decide) (fun c_7 => ?_) (fun c_7 => ?_)
    · exact ey_vret (W1 := fun (u : ep_F) => [(h0, .inl (cI, n, .inl u))]) hx hb hr hlocks hP hD hS g [0] rfl (by decide) (ey_fill_end hg (by rw [nI_leI hn (by omega)] at c_7; omega)) d_A_fill_20 (Nat.le_of_ble_eq_true rfl) (Nat.le_of_ble_eq_true rfl)
    · refine lv_aload_n hx hb d_A_fill_10 rfl (lv_at hl 0 rfl) ?_
      refine lv_iload_n hx hb d_A_fill_11 rfl (lv_at hl 2 rfl) ?_
      refine lv_iload_n hx hb d_A_fill_12 rfl (lv_at hl 1 rfl) ?_
      refine va_iast hx hb hK hP hD hS 0 0 rfl rfl (vp_in_nI (by rw [nI_leI hn (by omega)] at c_7; omega) hn) d_A_fill_13 (fun H locs hP hD hS => ?_)
      have hP : va_P (dC, dI) vwCl [(h0, .inl (cI, n, .inl (upd g (nI i).toNatClampNeg x)))] H := hP
      have hD : va_D A [(h0, .inl (cI, n, .inl (upd g (nI i).toNatClampNeg x)))] := hD
      refine lv_iinc (v := nI (i + 1)) (lv' := [(2, .int (nI (i + 1))), (0, .ref h0), (1, .int x), (3, .int (nI n))]) hx hb d_A_fill_14 hl (k := 2) rfl (nI_1 i) (by decide) rfl (fun ls hl => ?_)
      refine lv_goto (tgt := 5) hx hb d_A_fill_17 (by decide) ?_
      have hlt : i < n := by
        rw [nI_leI hn (by omega)] at c_7
        omega
      exact ih (i + 1) (upd g (nI i).toNatClampNeg x) (by omega) (by omega) (ey_fill_step hg (by rw [nI_clamp (by omega)])) _ _ hP hD hS ls (lv_sub hl [1, 2, 0, 3] rfl)
set_option maxHeartbeats 4000000 in
set_option maxRecDepth 100000 in
theorem c_ar_fill (l : Launch) (dC : Nat → ClassId) (dI : Nat → Nat → Nat) (cI cB cJ cZ : ClassId) (h0 n : Nat) (f : ep_F) (x : Int32) (hn : n < 2 ^ 31) : ey_Mv l y_A_fill w_A_fill { frames := 0, cells := 0, slots := 0, locals := 0 } (dC, dI) vwCl (ey_kt cI cB cJ cZ) [.ref h0, .int x] [(h0, .inl (cI, n, .inl f))] (fun (u : ep_F) => u = ep_fill n x f) (fun (u : ep_F) => [(h0, .inl (cI, n, .inl u))]) 0 0 := by
  intro sz
  refine va_MetF (cc := b_A_fill) (maxL := 4) (ret := none) (by decide +kernel) rfl ?_
  intro p e s m args below meth c s₁ B hml hv
  obtain ⟨rfl, hsz, hP, hK, hG, hD0⟩ := hv
  have hx := B.exec
  have hb := B.bytes
  have hr := B.returns
  have hts := fun (w : Cond) (h : w ∈ ew_T) => atoms_spec (ws := w_A_fill) B.pre w (List.mem_cons_of_mem _ h)
  have hown : s.vm.findClass R_A = some m.cls := findClass_of_methodNamed B.named
  have hlocks := B.notSynchronized
  subst hsz
  have hD := hD0.self (sz := s.heap.size)
  generalize hAe : va_A [(h0, .inl (cI, n, .inl f))] s.heap.size = A at hD ⊢
  have hA : ∀ q : Nat, s.heap.size ≤ q → A q := fun q h => by rw [← hAe]; exact Or.inr h
  have hS : va_S A s.heap s.heap [] := va_S.rf
  have hP : va_P (dC, dI) vwCl [(h0, .inl (cI, n, .inl f))] s.heap := hP
  have hl := lv_entry ([.ref h0, .int x]) (n := 4) (Nat.le_of_ble_eq_true rfl)
  rw [lg_entry_eq]
  generalize (lg_sl ([.ref h0, .int x]) ++ List.replicate (4 - (lg_sl ([.ref h0, .int x])).length) Slot.unset).toArray = ls at hl ⊢
  have hl : lv_has ls 4 [(0, .ref h0), (1, .int x)] := hl
  have C0 : ey_Cx p s m [.ref h0, .int x].toArray meth c b_A_fill 4 R_A ew_T none A := ⟨hx, hb, hml, hown, hts, hr, hlocks, hA⟩
  refine lv_iconst (v := nI 0) hx hb d_A_fill_0 (by decide) ?_
  refine lv_istore_n (lv' := [(2, .int (nI 0)), (0, .ref h0), (1, .int x)]) hx hb d_A_fill_1 rfl hl (by decide) rfl (fun ls hl => ?_)
  refine lv_aload_n hx hb d_A_fill_2 rfl (lv_at hl 1 rfl) ?_
  refine va_alen hx hb hK hP 0 0 rfl rfl (v := nI n) rfl d_A_fill_3 ?_
  refine lv_istore_n (lv' := [(3, .int (nI n)), (2, .int (nI 0)), (0, .ref h0), (1, .int x)]) hx hb d_A_fill_4 rfl hl (by decide) rfl (fun ls hl => ?_)
  exact c_ar_fill_L (h0 := h0) (n := n) (f := f) (x := x) hn hK hG C0 (n + 1) 0 f (by omega) (by omega) (fun j => by simp) _ _ hP hD hS ls (lv_sub hl [2, 3, 1, 0] rfl)
end
section
set_option maxHeartbeats 4000000 in
set_option maxRecDepth 100000 in
theorem c_mf_holds (l : Launch) (dC : Nat → ClassId) (dI : Nat → Nat → Nat) (cI cB cJ cZ : ClassId) (h0 h1 h2 h3 h4 : Nat) (ex ch x : Int32) : ey_Mi l y_M_holds w_M_holds { frames := 0, cells := 0, slots := 0, locals := 0 } (dC, dI) vwCl (ey_kt cI cB cJ cZ) [.ref h0, .int x] [(h0, .inr (0, [.ref h1, .ref h2, .ref h3, .ref h4, .int ex, .int ch]))] (fun (r : Int32) (u : Unit) => r = ep_holds ex x) (fun (u : Unit) => [(h0, .inr (0, [.ref h1, .ref h2, .ref h3, .ref h4, .int ex, .int ch]))]) 0 0 := by
  intro sz
  refine Met.ofW (cc := b_M_holds) (maxL := 2) (ret := (some .boolean)) (by decide) rfl ?_
  intro p e s m args below meth c s₁ B hml hv
  obtain ⟨rfl, hsz, hP, hK, hG, hD0⟩ := hv
  have hx := B.exec
  have hb := B.bytes
  have hr := B.returns
  have hts := fun (w : Cond) (h : w ∈ ew_T) => atoms_spec (ws := w_M_holds) B.pre w (List.mem_cons_of_mem _ h)
  have hown : s.vm.findClass R_M = some m.cls := findClass_of_methodNamed B.named
  have hlocks := B.notSynchronized
  subst hsz
  have hD := hD0.self (sz := s.heap.size)
  generalize hAe : va_A [(h0, .inr (0, [.ref h1, .ref h2, .ref h3, .ref h4, .int ex, .int ch]))] s.heap.size = A at hD ⊢
  have hA : ∀ q : Nat, s.heap.size ≤ q → A q := fun q h => by rw [← hAe]; exact Or.inr h
  have hS : va_S A s.heap s.heap [] := va_S.rf
  have hP : va_P (dC, dI) vwCl [(h0, .inr (0, [.ref h1, .ref h2, .ref h3, .ref h4, .int ex, .int ch]))] s.heap := hP
  have hl := lv_entry ([.ref h0, .int x]) (n := 2) (Nat.le_of_ble_eq_true rfl)
  rw [lg_entry_eq]
  generalize (lg_sl ([.ref h0, .int x]) ++ List.replicate (2 - (lg_sl ([.ref h0, .int x])).length) Slot.unset).toArray = ls at hl ⊢
  have hl : lv_has ls 2 [(0, .ref h0), (1, .int x)] := hl
  refine lv_iload_n hx hb d_M_holds_0 rfl (lv_at hl 1 rfl) ?_
  refine lv_if_lt (tgt := 23) hx hb d_M_holds_1 (by decide) (fun c_1 => ?_) (fun c_1 => ?_)
  · refine lv_iconst (v := 0) hx hb d_M_holds_23 (by decide) ?_
    exact ey_zret (W1 := fun (u : Unit) => [(h0, .inr (0, [.ref h1, .ref h2, .ref h3, .ref h4, .int ex, .int ch]))]) hx hb hr hlocks hP hD hS () [0] rfl (by decide) (by first | contradiction | (simp only [ep_holds, ↓reduceIte, not_true_eq_false, not_false_eq_true, c_1])) d_M_holds_24 (Nat.le_of_ble_eq_true rfl) (Nat.le_of_ble_eq_true rfl) rfl
  · refine lv_iload_n hx hb d_M_holds_4 rfl (lv_at hl 1 rfl) ?_
    refine lv_aload_n hx hb d_M_holds_5 rfl (lv_at hl 0 rfl) ?_
    refine va_get (D := (dC, dI)) (ci := 0) (v := .int ex) (C := R_M) (T := T_M) (N := 6) hx hb hts in_M hown hK hP 0 rfl rfl 4 (by decide) (hts _ ew_91) (fun _ h9 => h9) rfl d_M_holds_6 ?_
    refine lv_icmp_ge (tgt := 23) hx hb d_M_holds_9 (by decide) (fun c_9 => ?_) (fun c_9 => ?_)
    · refine lv_iconst (v := 0) hx hb d_M_holds_23 (by decide) ?_
      exact ey_zret (W1 := fun (u : Unit) => [(h0, .inr (0, [.ref h1, .ref h2, .ref h3, .ref h4, .int ex, .int ch]))]) hx hb hr hlocks hP hD hS () [0] rfl (by decide) (by first | contradiction | (simp only [ep_holds, ↓reduceIte, not_true_eq_false, not_false_eq_true, c_1, c_9])) d_M_holds_24 (Nat.le_of_ble_eq_true rfl) (Nat.le_of_ble_eq_true rfl) rfl
    · refine lv_iload_n hx hb d_M_holds_12 rfl (lv_at hl 1 rfl) ?_
      refine lv_sipush (v := 200) hx hb d_M_holds_13 (by decide) ?_
      refine lv_icmp_ge (tgt := 23) hx hb d_M_holds_16 (by decide) (fun c_16 => ?_) (fun c_16 => ?_)
      · refine lv_iconst (v := 0) hx hb d_M_holds_23 (by decide) ?_
        exact ey_zret (W1 := fun (u : Unit) => [(h0, .inr (0, [.ref h1, .ref h2, .ref h3, .ref h4, .int ex, .int ch]))]) hx hb hr hlocks hP hD hS () [0] rfl (by decide) (by first | contradiction | (simp only [ep_holds, ↓reduceIte, not_true_eq_false, not_false_eq_true, c_1, c_9, c_16])) d_M_holds_24 (Nat.le_of_ble_eq_true rfl) (Nat.le_of_ble_eq_true rfl) rfl
      · refine lv_iconst (v := 1) hx hb d_M_holds_19 (by decide) ?_
        refine lv_goto (tgt := 24) hx hb d_M_holds_20 (by decide) ?_
        exact ey_zret (W1 := fun (u : Unit) => [(h0, .inr (0, [.ref h1, .ref h2, .ref h3, .ref h4, .int ex, .int ch]))]) hx hb hr hlocks hP hD hS () [0] rfl (by decide) (by first | contradiction | (simp only [ep_holds, ↓reduceIte, not_true_eq_false, not_false_eq_true, c_1, c_9, c_16])) d_M_holds_24 (Nat.le_of_ble_eq_true rfl) (Nat.le_of_ble_eq_true rfl) rfl
set_option maxHeartbeats 4000000 in
set_option maxRecDepth 100000 in
theorem c_mf_add (l : Launch) (dC : Nat → ClassId) (dI : Nat → Nat → Nat) (cI cB cJ cZ : ClassId) (h0 h1 h2 h3 h4 : Nat) (ex ch : Int32) (la fi si : ep_F) (x y z : Int32) : ey_Mi l y_M_add w_M_add { frames := 0, cells := 0, slots := 0, locals := 0 } (dC, dI) vwCl (ey_kt cI cB cJ cZ) [.ref h0, .int x, .int y, .int z] [(h0, .inr (0, [.ref h1, .ref h2, .ref h3, .ref h4, .int ex, .int ch])), (h1, .inl (cI, 200, .inl la)), (h2, .inl (cI, 200, .inl fi)), (h3, .inl (cI, 200, .inl si))] (fun (r : Int32) (u : ep_R) => (r, u) = ep_add (la, fi, si, ex) x y z) (fun (u : ep_R) => [(h0, .inr (0, [.ref h1, .ref h2, .ref h3, .ref h4, .int u.2.2.2, .int ch])), (h1, .inl (cI, 200, .inl u.1)), (h2, .inl (cI, 200, .inl u.2.1)), (h3, .inl (cI, 200, .inl u.2.2.1))]) 0 0 := by
  intro sz
  refine Met.ofW (cc := b_M_add) (maxL := 4) (ret := (some .boolean)) (by decide) rfl ?_
  intro p e s m args below meth c s₁ B hml hv
  obtain ⟨rfl, hsz, hP, hK, hG, hD0⟩ := hv
  have hx := B.exec
  have hb := B.bytes
  have hr := B.returns
  have hts := fun (w : Cond) (h : w ∈ ew_T) => atoms_spec (ws := w_M_add) B.pre w (List.mem_cons_of_mem _ h)
  have hown : s.vm.findClass R_M = some m.cls := findClass_of_methodNamed B.named
  have hlocks := B.notSynchronized
  subst hsz
  have hD := hD0.self (sz := s.heap.size)
  generalize hAe : va_A [(h0, .inr (0, [.ref h1, .ref h2, .ref h3, .ref h4, .int ex, .int ch])), (h1, .inl (cI, 200, .inl la)), (h2, .inl (cI, 200, .inl fi)), (h3, .inl (cI, 200, .inl si))] s.heap.size = A at hD ⊢
  have hA : ∀ q : Nat, s.heap.size ≤ q → A q := fun q h => by rw [← hAe]; exact Or.inr h
  have hS : va_S A s.heap s.heap [] := va_S.rf
  have hP : va_P (dC, dI) vwCl [(h0, .inr (0, [.ref h1, .ref h2, .ref h3, .ref h4, .int ex, .int ch])), (h1, .inl (cI, 200, .inl la)), (h2, .inl (cI, 200, .inl fi)), (h3, .inl (cI, 200, .inl si))] s.heap := hP
  have hl := lv_entry ([.ref h0, .int x, .int y, .int z]) (n := 4) (Nat.le_of_ble_eq_true rfl)
  rw [lg_entry_eq]
  generalize (lg_sl ([.ref h0, .int x, .int y, .int z]) ++ List.replicate (4 - (lg_sl ([.ref h0, .int x, .int y, .int z])).length) Slot.unset).toArray = ls at hl ⊢
  have hl : lv_has ls 4 [(0, .ref h0), (1, .int x), (2, .int y), (3, .int z)] := hl
  refine lv_aload_n hx hb d_M_add_0 rfl (lv_at hl 0 rfl) ?_
  refine va_get (D := (dC, dI)) (ci := 0) (v := .int ex) (C := R_M) (T := T_M) (N := 6) hx hb hts in_M hown hK hP 0 rfl rfl 4 (by decide) (hts _ ew_91) (fun _ h9 => h9) rfl d_M_add_1 ?_
  refine lv_if_lt (tgt := 17) hx hb d_M_add_4 (by decide) (fun c_4 => ?_) (fun c_4 => ?_)
  · refine lv_iconst (v := 0) hx hb d_M_add_17 (by decide) ?_
    exact ey_zret (W1 := fun (u : ep_R) => [(h0, .inr (0, [.ref h1, .ref h2, .ref h3, .ref h4, .int u.2.2.2, .int ch])), (h1, .inl (cI, 200, .inl u.1)), (h2, .inl (cI, 200, .inl u.2.1)), (h3, .inl (cI, 200, .inl u.2.2.1))]) hx hb hr hlocks hP hD hS (la, fi, si, ex) [0, 1, 2, 3] rfl (by decide) (by first | contradiction | (simp only [ep_add, ↓reduceIte, not_true_eq_false, not_false_eq_true, c_4])) d_M_add_18 (Nat.le_of_ble_eq_true rfl) (Nat.le_of_ble_eq_true rfl) rfl
  · refine lv_aload_n hx hb d_M_add_7 rfl (lv_at hl 0 rfl) ?_
    refine va_get (D := (dC, dI)) (ci := 0) (v := .int ex) (C := R_M) (T := T_M) (N := 6) hx hb hts in_M hown hK hP 0 rfl rfl 4 (by decide) (hts _ ew_91) (fun _ h9 => h9) rfl d_M_add_8 ?_
    refine lv_sipush (v := 200) hx hb d_M_add_11 (by decide) ?_
    refine lv_icmp_lt (tgt := 19) hx hb d_M_add_14 (by decide) (fun c_14 => ?_) (fun c_14 => ?_)
    · refine lv_aload_n hx hb d_M_add_19 rfl (lv_at hl 0 rfl) ?_
      refine va_get (D := (dC, dI)) (ci := 0) (v := .ref h1) (C := R_M) (T := T_M) (N := 6) hx hb hts in_M hown hK hP 0 rfl rfl 0 (by decide) (hts _ ew_83) (fun _ h9 => h9) rfl d_M_add_20 ?_
      refine lv_aload_n hx hb d_M_add_23 rfl (lv_at hl 0 rfl) ?_
      refine va_get (D := (dC, dI)) (ci := 0) (v := .int ex) (C := R_M) (T := T_M) (N := 6) hx hb hts in_M hown hK hP 0 rfl rfl 4 (by decide) (hts _ ew_91) (fun _ h9 => h9) rfl d_M_add_24 ?_
      refine lv_iload_n hx hb d_M_add_27 rfl (lv_at hl 1 rfl) ?_
      refine va_iast hx hb hK hP hD hS 1 0 rfl rfl (ey_in200 c_4 c_14) d_M_add_28 (fun H locs hP hD hS => ?_)
      have hP : va_P (dC, dI) vwCl [(h0, .inr (0, [.ref h1, .ref h2, .ref h3, .ref h4, .int ex, .int ch])), (h1, .inl (cI, 200, .inl (upd la ex.toNatClampNeg x))), (h2, .inl (cI, 200, .inl fi)), (h3, .inl (cI, 200, .inl si))] H := hP
      have hD : va_D A [(h0, .inr (0, [.ref h1, .ref h2, .ref h3, .ref h4, .int ex, .int ch])), (h1, .inl (cI, 200, .inl (upd la ex.toNatClampNeg x))), (h2, .inl (cI, 200, .inl fi)), (h3, .inl (cI, 200, .inl si))] := hD
      refine lv_aload_n hx hb d_M_add_29 rfl (lv_at hl 0 rfl) ?_
      refine va_get (D := (dC, dI)) (ci := 0) (v := .ref h2) (C := R_M) (T := T_M) (N := 6) hx hb hts in_M hown hK hP 0 rfl rfl 1 (by decide) (hts _ ew_85) (fun _ h9 => h9) rfl d_M_add_30 ?_
      refine lv_aload_n hx hb d_M_add_33 rfl (lv_at hl 0 rfl) ?_
      refine va_get (D := (dC, dI)) (ci := 0) (v := .int ex) (C := R_M) (T := T_M) (N := 6) hx hb hts in_M hown hK hP 0 rfl rfl 4 (by decide) (hts _ ew_91) (fun _ h9 => h9) rfl d_M_add_34 ?_
      refine lv_iload_n hx hb d_M_add_37 rfl (lv_at hl 2 rfl) ?_
      refine va_iast hx hb hK hP hD hS 2 0 rfl rfl (ey_in200 c_4 c_14) d_M_add_38 (fun H locs hP hD hS => ?_)
      have hP : va_P (dC, dI) vwCl [(h0, .inr (0, [.ref h1, .ref h2, .ref h3, .ref h4, .int ex, .int ch])), (h1, .inl (cI, 200, .inl (upd la ex.toNatClampNeg x))), (h2, .inl (cI, 200, .inl (upd fi ex.toNatClampNeg y))), (h3, .inl (cI, 200, .inl si))] H := hP
      have hD : va_D A [(h0, .inr (0, [.ref h1, .ref h2, .ref h3, .ref h4, .int ex, .int ch])), (h1, .inl (cI, 200, .inl (upd la ex.toNatClampNeg x))), (h2, .inl (cI, 200, .inl (upd fi ex.toNatClampNeg y))), (h3, .inl (cI, 200, .inl si))] := hD
      refine lv_aload_n hx hb d_M_add_39 rfl (lv_at hl 0 rfl) ?_
      refine va_get (D := (dC, dI)) (ci := 0) (v := .ref h3) (C := R_M) (T := T_M) (N := 6) hx hb hts in_M hown hK hP 0 rfl rfl 2 (by decide) (hts _ ew_87) (fun _ h9 => h9) rfl d_M_add_40 ?_
      refine lv_aload_n hx hb d_M_add_43 rfl (lv_at hl 0 rfl) ?_
      refine va_get (D := (dC, dI)) (ci := 0) (v := .int ex) (C := R_M) (T := T_M) (N := 6) hx hb hts in_M hown hK hP 0 rfl rfl 4 (by decide) (hts _ ew_91) (fun _ h9 => h9) rfl d_M_add_44 ?_
      refine lv_iload_n hx hb d_M_add_47 rfl (lv_at hl 3 rfl) ?_
      refine va_iast hx hb hK hP hD hS 3 0 rfl rfl (ey_in200 c_4 c_14) d_M_add_48 (fun H locs hP hD hS => ?_)
      have hP : va_P (dC, dI) vwCl [(h0, .inr (0, [.ref h1, .ref h2, .ref h3, .ref h4, .int ex, .int ch])), (h1, .inl (cI, 200, .inl (upd la ex.toNatClampNeg x))), (h2, .inl (cI, 200, .inl (upd fi ex.toNatClampNeg y))), (h3, .inl (cI, 200, .inl (upd si ex.toNatClampNeg z)))] H := hP
      have hD : va_D A [(h0, .inr (0, [.ref h1, .ref h2, .ref h3, .ref h4, .int ex, .int ch])), (h1, .inl (cI, 200, .inl (upd la ex.toNatClampNeg x))), (h2, .inl (cI, 200, .inl (upd fi ex.toNatClampNeg y))), (h3, .inl (cI, 200, .inl (upd si ex.toNatClampNeg z)))] := hD
      refine lv_aload_n hx hb d_M_add_49 rfl (lv_at hl 0 rfl) ?_
      refine lv_dup hx hb d_M_add_50 rfl ?_
      refine va_get (D := (dC, dI)) (ci := 0) (v := .int ex) (C := R_M) (T := T_M) (N := 6) hx hb hts in_M hown hK hP 0 rfl rfl 4 (by decide) (hts _ ew_91) (fun _ h9 => h9) rfl d_M_add_51 ?_
      refine lv_iconst (v := 1) hx hb d_M_add_54 (by decide) ?_
      refine lv_iadd hx hb d_M_add_55 ?_
      refine va_put (D := (dC, dI)) (ci := 0) (v := .int (ex + 1)) (ty := .int) (C := R_M) (T := T_M) (N := 6) hx hb hts in_M t_M t_M_ok n_M hown hK hP hD hS 0 rfl rfl 4 (by decide) (hts _ ew_91) (fun _ h9 => h9) rfl (by decide +kernel) rfl rfl (Nat.le_of_ble_eq_true rfl) d_M_add_56 (fun H locs hP hD hS => ?_)
      have hP : va_P (dC, dI) vwCl [(h0, .inr (0, [.ref h1, .ref h2, .ref h3, .ref h4, .int (ex + 1), .int ch])), (h1, .inl (cI, 200, .inl (upd la ex.toNatClampNeg x))), (h2, .inl (cI, 200, .inl (upd fi ex.toNatClampNeg y))), (h3, .inl (cI, 200, .inl (upd si ex.toNatClampNeg z)))] H := hP
      have hD : va_D A [(h0, .inr (0, [.ref h1, .ref h2, .ref h3, .ref h4, .int (ex + 1), .int ch])), (h1, .inl (cI, 200, .inl (upd la ex.toNatClampNeg x))), (h2, .inl (cI, 200, .inl (upd fi ex.toNatClampNeg y))), (h3, .inl (cI, 200, .inl (upd si ex.toNatClampNeg z)))] := hD
      refine lv_iconst (v := 1) hx hb d_M_add_59 (by decide) ?_
      exact ey_zret (W1 := fun (u : ep_R) => [(h0, .inr (0, [.ref h1, .ref h2, .ref h3, .ref h4, .int u.2.2.2, .int ch])), (h1, .inl (cI, 200, .inl u.1)), (h2, .inl (cI, 200, .inl u.2.1)), (h3, .inl (cI, 200, .inl u.2.2.1))]) hx hb hr hlocks hP hD hS (upd la ex.toNatClampNeg x, upd fi ex.toNatClampNeg y, upd si ex.toNatClampNeg z, ex + 1) [0, 1, 2, 3] rfl (by decide) (by first | contradiction | (simp only [ep_add, ↓reduceIte, not_true_eq_false, not_false_eq_true, c_4, c_14])) d_M_add_60 (Nat.le_of_ble_eq_true rfl) (Nat.le_of_ble_eq_true rfl) rfl
    · refine lv_iconst (v := 0) hx hb d_M_add_17 (by decide) ?_
      exact ey_zret (W1 := fun (u : ep_R) => [(h0, .inr (0, [.ref h1, .ref h2, .ref h3, .ref h4, .int u.2.2.2, .int ch])), (h1, .inl (cI, 200, .inl u.1)), (h2, .inl (cI, 200, .inl u.2.1)), (h3, .inl (cI, 200, .inl u.2.2.1))]) hx hb hr hlocks hP hD hS (la, fi, si, ex) [0, 1, 2, 3] rfl (by decide) (by first | contradiction | (simp only [ep_add, ↓reduceIte, not_true_eq_false, not_false_eq_true, c_4, c_14])) d_M_add_18 (Nat.le_of_ble_eq_true rfl) (Nat.le_of_ble_eq_true rfl) rfl
end
section
set_option maxHeartbeats 4000000 in
set_option maxRecDepth 100000 in
theorem c_mf_clear (l : Launch) (dC : Nat → ClassId) (dI : Nat → Nat → Nat) (cI cB cJ cZ : ClassId) (h0 h1 h2 h3 h4 : Nat) (ex ch : Int32) (no : ep_F) : ey_Mv l y_M_clear w_M_clear { frames := 1, cells := 0, slots := 0, locals := 23 } (dC, dI) vwCl (ey_kt cI cB cJ cZ) [.ref h0] [(h0, .inr (0, [.ref h1, .ref h2, .ref h3, .ref h4, .int ex, .int ch])), (h4, .inl (cI, 24, .inl no))] (fun (u : ep_F) => u = ep_fill 24 0 no) (fun (u : ep_F) => [(h0, .inr (0, [.ref h1, .ref h2, .ref h3, .ref h4, .int 0, .int 0])), (h4, .inl (cI, 24, .inl u))]) 0 0 := by
  intro sz
  refine Met.ofW (cc := b_M_clear) (maxL := 1) (ret := none) (by decide) rfl ?_
  intro p e s m args below meth c s₁ B hml hv
  obtain ⟨rfl, hsz, hP, hK, hG, hD0⟩ := hv
  have hx := B.exec
  have hb := B.bytes
  have hr := B.returns
  have hts := fun (w : Cond) (h : w ∈ ew_T) => atoms_spec (ws := w_M_clear) B.pre w (List.mem_cons_of_mem _ h)
  have hown : s.vm.findClass R_M = some m.cls := findClass_of_methodNamed B.named
  have hlocks := B.notSynchronized
  subst hsz
  have hD := hD0.self (sz := s.heap.size)
  generalize hAe : va_A [(h0, .inr (0, [.ref h1, .ref h2, .ref h3, .ref h4, .int ex, .int ch])), (h4, .inl (cI, 24, .inl no))] s.heap.size = A at hD ⊢
  have hA : ∀ q : Nat, s.heap.size ≤ q → A q := fun q h => by rw [← hAe]; exact Or.inr h
  have hS : va_S A s.heap s.heap [] := va_S.rf
  have hP : va_P (dC, dI) vwCl [(h0, .inr (0, [.ref h1, .ref h2, .ref h3, .ref h4, .int ex, .int ch])), (h4, .inl (cI, 24, .inl no))] s.heap := hP
  have hl := lv_entry ([.ref h0]) (n := 1) (Nat.le_of_ble_eq_true rfl)
  rw [lg_entry_eq]
  generalize (lg_sl ([.ref h0]) ++ List.replicate (1 - (lg_sl ([.ref h0])).length) Slot.unset).toArray = ls at hl ⊢
  have hl : lv_has ls 1 [(0, .ref h0)] := hl
  refine lv_aload_n hx hb d_M_clear_0 rfl (lv_at hl 0 rfl) ?_
  refine lv_iconst (v := 0) hx hb d_M_clear_1 (by decide) ?_
  refine va_put (D := (dC, dI)) (ci := 0) (v := .int 0) (ty := .int) (C := R_M) (T := T_M) (N := 6) hx hb hts in_M t_M t_M_ok n_M hown hK hP hD hS 0 rfl rfl 4 (by decide) (hts _ ew_91) (fun _ h9 => h9) rfl (by decide +kernel) rfl rfl (Nat.le_of_ble_eq_true rfl) d_M_clear_2 (fun H locs hP hD hS => ?_)
  have hP : va_P (dC, dI) vwCl [(h0, .inr (0, [.ref h1, .ref h2, .ref h3, .ref h4, .int 0, .int ch])), (h4, .inl (cI, 24, .inl no))] H := hP
  have hD : va_D A [(h0, .inr (0, [.ref h1, .ref h2, .ref h3, .ref h4, .int 0, .int ch])), (h4, .inl (cI, 24, .inl no))] := hD
  refine lv_aload_n hx hb d_M_clear_5 rfl (lv_at hl 0 rfl) ?_
  refine lv_iconst (v := 0) hx hb d_M_clear_6 (by decide) ?_
  refine va_put (D := (dC, dI)) (ci := 0) (v := .int 0) (ty := .int) (C := R_M) (T := T_M) (N := 6) hx hb hts in_M t_M t_M_ok n_M hown hK hP hD hS 0 rfl rfl 5 (by decide) (hts _ ew_93) (fun _ h9 => h9) rfl (by decide +kernel) rfl rfl (Nat.le_of_ble_eq_true rfl) d_M_clear_7 (fun H locs hP hD hS => ?_)
  have hP : va_P (dC, dI) vwCl [(h0, .inr (0, [.ref h1, .ref h2, .ref h3, .ref h4, .int 0, .int 0])), (h4, .inl (cI, 24, .inl no))] H := hP
  have hD : va_D A [(h0, .inr (0, [.ref h1, .ref h2, .ref h3, .ref h4, .int 0, .int 0])), (h4, .inl (cI, 24, .inl no))] := hD
  refine lv_aload_n hx hb d_M_clear_10 rfl (lv_at hl 0 rfl) ?_
  refine va_get (D := (dC, dI)) (ci := 0) (v := .ref h4) (C := R_M) (T := T_M) (N := 6) hx hb hts in_M hown hK hP 0 rfl rfl 3 (by decide) (hts _ ew_89) (fun _ h9 => h9) rfl d_M_clear_11 ?_
  refine lv_iconst (v := 0) hx hb d_M_clear_14 (by decide) ?_
  refine ey_Sv (Wc := [(h4, .inl (cI, 24, .inl no))]) (wr := [(h0, .inr (0, [.ref h1, .ref h2, .ref h3, .ref h4, .int 0, .int 0]))]) (As := [.ref h4, .int 0]) (rest := []) ⟨hx, hb, hml, hown, hts⟩ (c_ar_fill l dC dI cI cB cJ cZ h4 24 no 0 (by decide)) (va_cwS 2 hts (ew_S ew_147 ew_148 ew_24 g_A_fill) rfl rfl rfl (by decide +kernel) ⟨Nat.le_of_ble_eq_true rfl, Nat.le_of_ble_eq_true rfl⟩) hK hG hP hD hS hA [1] [0] rfl rfl (by decide) (by decide) (by decide) rfl hl.1 rfl (Nat.le_of_ble_eq_true rfl) d_M_clear_15 ⟨Nat.le_of_ble_eq_true rfl, Nat.le_of_ble_eq_true rfl⟩ (fun u_2 H locs e_3 hP hD hS => ?_)
  have hP : va_P (dC, dI) vwCl [(h0, .inr (0, [.ref h1, .ref h2, .ref h3, .ref h4, .int 0, .int 0])), (h4, .inl (cI, 24, .inl u_2))] H := hP
  have hD : va_D A [(h0, .inr (0, [.ref h1, .ref h2, .ref h3, .ref h4, .int 0, .int 0])), (h4, .inl (cI, 24, .inl u_2))] := hD
  subst e_3
  exact ey_vret (W1 := fun (u : ep_F) => [(h0, .inr (0, [.ref h1, .ref h2, .ref h3, .ref h4, .int 0, .int 0])), (h4, .inl (cI, 24, .inl u))]) hx hb hr hlocks hP hD hS (ep_fill 24 0 no) [0, 1] rfl (by decide) rfl d_M_clear_18 (Nat.le_of_ble_eq_true rfl) (Nat.le_of_ble_eq_true rfl)
set_option maxHeartbeats 4000000 in
set_option maxRecDepth 100000 in
theorem c_mf_take_L {p : Program} {l : Launch} {e : Env} {s : State} {m : MethodId} {args : Array Value} {below : List Frame} {meth : Method} {c : Code} {dC : Nat → ClassId} {dI : Nat → Nat → Nat} {cI cB cJ cZ : ClassId} {A : Nat → Prop} {h0 h1 h2 h3 h4 : Nat} {ex ch : Int32} {no : ep_F} {h5 : Nat} {w : ep_F}  (hK : va_K (dC, dI) vwCl (ey_kt cI cB cJ cZ) s) (hG : ex_G s) (C0 : ey_Cx p s m args meth c b_M_takeNotes 3 R_M ew_T none A)  :
    ∀ (fuel : Nat) (i : Nat) (g : ep_F) (hi : i + fuel = 25) (hin : i ≤ 24) (hu : ep_tn w fuel i g = ep_tn w 25 0 no), ∀ (H : Heap) (locs : List Loc), va_P (dC, dI) vwCl [(h0, .inr (0, [.ref h1, .ref h2, .ref h3, .ref h4, .int ex, .int ch])), (h4, .inl (cI, 24, .inl g)), (h5, .inl (cI, 24, .inl w))] H → va_D A [(h0, .inr (0, [.ref h1, .ref h2, .ref h3, .ref h4, .int ex, .int ch])), (h4, .inl (cI, 24, .inl g)), (h5, .inl (cI, 24, .inl w))] → va_S A s.heap H locs → ∀ (ls : Array Slot), lv_has ls 3 [(0, .ref h0), (1, .ref h5), (2, .int (nI i))] → W p l e { frames := 0, cells := 0, slots := 0, locals := 0 } s m args below meth c H locs 0 0 (MQ below (va_Qv (fun (u : ep_F) => u = ep_tn w 25 0 no) (fun u t => ey_Post (dC, dI) vwCl A ((fun (u : ep_F) => [(h0, .inr (0, [.ref h1, .ref h2, .ref h3, .ref h4, .int ex, .int ch])), (h4, .inl (cI, 24, .inl u)), (h5, .inl (cI, 24, .inl w))]) u) t) A) args s 0 0 A) (F0 m 2 ls []) := by
  obtain ⟨hx, hb, hml, hown, hts, hr, hlocks, hA⟩ := id C0
  intro fuel
  induction fuel with
  | zero =>
    intro i g hi hin hu H locs hP hD hS ls hl
    exact absurd hi (by omega)
  | succ fuel ih =>
    intro i g hi hin hu H locs hP hD hS ls hl
    refine lv_iload_n hx hb d_M_takeNotes_2 rfl (lv_at hl 2 rfl) ?_
    refine lv_bipush (v := 24) hx hb d_M_takeNotes_3 (by decide) ?_
    refine lv_icmp_ge (tgt := 29) hx hb d_M_takeNotes_5 (by decide) (fun c_5 => ?_) (fun c_5 => ?_)
    · exact ey_vret (W1 := fun (u : ep_F) => [(h0, .inr (0, [.ref h1, .ref h2, .ref h3, .ref h4, .int ex, .int ch])), (h4, .inl (cI, 24, .inl u)), (h5, .inl (cI, 24, .inl w))]) hx hb hr hlocks hP hD hS g [0, 1, 2] rfl (by decide) (by rw [← hu]; simp only [ep_tn, ↓reduceIte, c_5]) d_M_takeNotes_29 (Nat.le_of_ble_eq_true rfl) (Nat.le_of_ble_eq_true rfl)
    · have hlt : i < 24 := ey_lt24 (by omega) c_5
      refine lv_iload_n hx hb d_M_takeNotes_8 rfl (lv_at hl 2 rfl) ?_
      refine lv_aload_n hx hb d_M_takeNotes_9 rfl (lv_at hl 1 rfl) ?_
      refine va_alen hx hb hK hP 2 0 rfl rfl (v := nI 24) rfl d_M_takeNotes_10 ?_
      refine lv_icmp_ge (tgt := 29) hx hb d_M_takeNotes_11 (by decide) (fun c_11 => ?_) (fun c_11 => ?_)
      · exact ey_vret (W1 := fun (u : ep_F) => [(h0, .inr (0, [.ref h1, .ref h2, .ref h3, .ref h4, .int ex, .int ch])), (h4, .inl (cI, 24, .inl u)), (h5, .inl (cI, 24, .inl w))]) hx hb hr hlocks hP hD hS g [0, 1, 2] rfl (by decide) (by rw [← hu]; simp only [ep_tn, ↓reduceIte, c_5, c_11]) d_M_takeNotes_29 (Nat.le_of_ble_eq_true rfl) (Nat.le_of_ble_eq_true rfl)
      · refine lv_aload_n hx hb d_M_takeNotes_14 rfl (lv_at hl 0 rfl) ?_
        refine va_get (D := (dC, dI)) (ci := 0) (v := .ref h4) (C := R_M) (T := T_M) (N := 6) hx hb hts in_M hown hK hP 0 rfl rfl 3 (by decide) (hts _ ew_89) (fun _ h9 => h9) rfl d_M_takeNotes_15 ?_
        refine lv_iload_n hx hb d_M_takeNotes_18 rfl (lv_at hl 2 rfl) ?_
        refine lv_aload_n hx hb d_M_takeNotes_19 rfl (lv_at hl 1 rfl) ?_
        refine lv_iload_n hx hb d_M_takeNotes_20 rfl (lv_at hl 2 rfl) ?_
        refine va_iald hx hb hK hP 2 0 rfl rfl (vp_in_nI hlt (by decide)) d_M_takeNotes_21 ?_
        refine va_iast hx hb hK hP hD hS 1 0 rfl rfl (vp_in_nI hlt (by decide)) d_M_takeNotes_22 (fun H locs hP hD hS => ?_)
        have hP : va_P (dC, dI) vwCl [(h0, .inr (0, [.ref h1, .ref h2, .ref h3, .ref h4, .int ex, .int ch])), (h4, .inl (cI, 24, .inl (upd g (nI i).toNatClampNeg (w (nI i).toNatClampNeg)))), (h5, .inl (cI, 24, .inl w))] H := hP
        have hD : va_D A [(h0, .inr (0, [.ref h1, .ref h2, .ref h3, .ref h4, .int ex, .int ch])), (h4, .inl (cI, 24, .inl (upd g (nI i).toNatClampNeg (w (nI i).toNatClampNeg)))), (h5, .inl (cI, 24, .inl w))] := hD
        refine lv_iinc (v := nI (i + 1)) (lv' := [(2, .int (nI (i + 1))), (0, .ref h0), (1, .ref h5)]) hx hb d_M_takeNotes_23 hl (k := 2) rfl (nI_1 i) (by decide) rfl (fun ls hl => ?_)
        refine lv_goto (tgt := 2) hx hb d_M_takeNotes_26 (by decide) ?_
        exact ih (i + 1) (upd g (nI i).toNatClampNeg (w (nI i).toNatClampNeg)) (by omega) (by omega) (by rw [← hu]; simp only [ep_tn, c_5, c_11, ↓reduceIte]) _ _ hP hD hS ls (lv_sub hl [1, 2, 0] rfl)
set_option maxHeartbeats 4000000 in
set_option maxRecDepth 100000 in
theorem c_mf_take (l : Launch) (dC : Nat → ClassId) (dI : Nat → Nat → Nat) (cI cB cJ cZ : ClassId) (h0 h1 h2 h3 h4 : Nat) (ex ch : Int32) (no : ep_F) (h5 : Nat) (w : ep_F) : ey_Mv l y_M_takeNotes w_M_takeNotes { frames := 0, cells := 0, slots := 0, locals := 0 } (dC, dI) vwCl (ey_kt cI cB cJ cZ) [.ref h0, .ref h5] [(h0, .inr (0, [.ref h1, .ref h2, .ref h3, .ref h4, .int ex, .int ch])), (h4, .inl (cI, 24, .inl no)), (h5, .inl (cI, 24, .inl w))] (fun (u : ep_F) => u = ep_tn w 25 0 no) (fun (u : ep_F) => [(h0, .inr (0, [.ref h1, .ref h2, .ref h3, .ref h4, .int ex, .int ch])), (h4, .inl (cI, 24, .inl u)), (h5, .inl (cI, 24, .inl w))]) 0 0 := by
  intro sz
  refine Met.ofW (cc := b_M_takeNotes) (maxL := 3) (ret := none) (by decide) rfl ?_
  intro p e s m args below meth c s₁ B hml hv
  obtain ⟨rfl, hsz, hP, hK, hG, hD0⟩ := hv
  have hx := B.exec
  have hb := B.bytes
  have hr := B.returns
  have hts := fun (w : Cond) (h : w ∈ ew_T) => atoms_spec (ws := w_M_takeNotes) B.pre w (List.mem_cons_of_mem _ h)
  have hown : s.vm.findClass R_M = some m.cls := findClass_of_methodNamed B.named
  have hlocks := B.notSynchronized
  subst hsz
  have hD := hD0.self (sz := s.heap.size)
  generalize hAe : va_A [(h0, .inr (0, [.ref h1, .ref h2, .ref h3, .ref h4, .int ex, .int ch])), (h4, .inl (cI, 24, .inl no)), (h5, .inl (cI, 24, .inl w))] s.heap.size = A at hD ⊢
  have hA : ∀ q : Nat, s.heap.size ≤ q → A q := fun q h => by rw [← hAe]; exact Or.inr h
  have hS : va_S A s.heap s.heap [] := va_S.rf
  have hP : va_P (dC, dI) vwCl [(h0, .inr (0, [.ref h1, .ref h2, .ref h3, .ref h4, .int ex, .int ch])), (h4, .inl (cI, 24, .inl no)), (h5, .inl (cI, 24, .inl w))] s.heap := hP
  have hl := lv_entry ([.ref h0, .ref h5]) (n := 3) (Nat.le_of_ble_eq_true rfl)
  rw [lg_entry_eq]
  generalize (lg_sl ([.ref h0, .ref h5]) ++ List.replicate (3 - (lg_sl ([.ref h0, .ref h5])).length) Slot.unset).toArray = ls at hl ⊢
  have hl : lv_has ls 3 [(0, .ref h0), (1, .ref h5)] := hl
  have C0 : ey_Cx p s m [.ref h0, .ref h5].toArray meth c b_M_takeNotes 3 R_M ew_T none A := ⟨hx, hb, hml, hown, hts, hr, hlocks, hA⟩
  refine lv_iconst (v := nI 0) hx hb d_M_takeNotes_0 (by decide) ?_
  refine lv_istore_n (lv' := [(2, .int (nI 0)), (0, .ref h0), (1, .ref h5)]) hx hb d_M_takeNotes_1 rfl hl (by decide) rfl (fun ls hl => ?_)
  exact c_mf_take_L (h0 := h0) (h1 := h1) (h2 := h2) (h3 := h3) (h4 := h4) (ex := ex) (ch := ch) (no := no) (h5 := h5) (w := w) hK hG C0 25 0 no rfl (by omega) rfl _ _ hP hD hS ls (lv_sub hl [1, 2, 0] rfl)
set_option maxHeartbeats 4000000 in
set_option maxRecDepth 100000 in
theorem c_mf_follow_L {p : Program} {l : Launch} {e : Env} {s : State} {m : MethodId} {args : Array Value} {below : List Frame} {meth : Method} {c : Code} {dC : Nat → ClassId} {dI : Nat → Nat → Nat} {cI cB cJ cZ : ClassId} {A : Nat → Prop} {h0 h1 h2 h3 h4 : Nat} {ex ch : Int32} {la fi si no : ep_F} {k0 k1 k2 k3 k4 : Nat} {bex bch : Int32} {bla bfi bsi : ep_F} {fr to : Int32} (g : ep_F) (hg9 : g = ep_fill 24 0 no) (hK : va_K (dC, dI) vwCl (ey_kt cI cB cJ cZ) s) (hG : ex_G s) (C0 : ey_Cx p s m args meth c b_M_follow 6 R_M ew_T none A)  :
    ∀ (fuel : Nat) (i : Nat) (q : ep_R) (hi : i + fuel = 201) (hin : i ≤ 200) (hu : ep_fol bla bfi bsi bex fr to fuel i q = ep_fol bla bfi bsi bex fr to 201 0 (la, fi, si, 0)), ∀ (H : Heap) (locs : List Loc), va_P (dC, dI) vwCl [(h0, .inr (0, [.ref h1, .ref h2, .ref h3, .ref h4, .int q.2.2.2, .int (bch + 1)])), (h1, .inl (cI, 200, .inl q.1)), (h2, .inl (cI, 200, .inl q.2.1)), (h3, .inl (cI, 200, .inl q.2.2.1)), (h4, .inl (cI, 24, .inl g)), (k0, .inr (0, [.ref k1, .ref k2, .ref k3, .ref k4, .int bex, .int bch])), (k1, .inl (cI, 200, .inl bla)), (k2, .inl (cI, 200, .inl bfi)), (k3, .inl (cI, 200, .inl bsi))] H → va_D A [(h0, .inr (0, [.ref h1, .ref h2, .ref h3, .ref h4, .int q.2.2.2, .int (bch + 1)])), (h1, .inl (cI, 200, .inl q.1)), (h2, .inl (cI, 200, .inl q.2.1)), (h3, .inl (cI, 200, .inl q.2.2.1)), (h4, .inl (cI, 24, .inl g)), (k0, .inr (0, [.ref k1, .ref k2, .ref k3, .ref k4, .int bex, .int bch])), (k1, .inl (cI, 200, .inl bla)), (k2, .inl (cI, 200, .inl bfi)), (k3, .inl (cI, 200, .inl bsi))] → va_S A s.heap H locs → ∀ (ls : Array Slot), lv_has ls 6 [(0, .ref h0), (1, .ref k0), (2, .int fr), (3, .int to), (4, .int (nI i))] → W p l e { frames := 2, cells := 0, slots := 0, locals := 50 } s m args below meth c H locs 0 0 (MQ below (va_Qv (fun (u : ep_R × ep_F) => u = (ep_fol bla bfi bsi bex fr to 201 0 (la, fi, si, 0), ep_fill 24 0 no)) (fun u t => ey_Post (dC, dI) vwCl A ((fun (u : ep_R × ep_F) => [(h0, .inr (0, [.ref h1, .ref h2, .ref h3, .ref h4, .int u.1.2.2.2, .int (bch + 1)])), (h1, .inl (cI, 200, .inl u.1.1)), (h2, .inl (cI, 200, .inl u.1.2.1)), (h3, .inl (cI, 200, .inl u.1.2.2.1)), (h4, .inl (cI, 24, .inl u.2)), (k0, .inr (0, [.ref k1, .ref k2, .ref k3, .ref k4, .int bex, .int bch])), (k1, .inl (cI, 200, .inl bla)), (k2, .inl (cI, 200, .inl bfi)), (k3, .inl (cI, 200, .inl bsi))]) u) t) A) args s 0 0 A) (F0 m 17 ls []) := by
  obtain ⟨hx, hb, hml, hown, hts, hr, hlocks, hA⟩ := id C0
  intro fuel
  induction fuel with
  | zero =>
    intro i q hi hin hu H locs hP hD hS ls hl
    exact absurd hi (by omega)
  | succ fuel ih =>
    intro i q hi hin hu H locs hP hD hS ls hl
    refine lv_iload hx hb d_M_follow_17 (lv_at hl 4 rfl) ?_
    refine lv_aload_n hx hb d_M_follow_19 rfl (lv_at hl 1 rfl) ?_
    refine va_get (D := (dC, dI)) (ci := 0) (v := .int bex) (C := R_M) (T := T_M) (N := 6) hx hb hts in_M hown hK hP 5 rfl rfl 4 (by decide) (hts _ ew_91) (fun _ h9 => h9) rfl d_M_follow_20 ?_
    refine lv_icmp_ge (tgt := 82) hx hb d_M_follow_23 (by decide) (fun c_23 => ?_) (fun c_23 => ?_)
    · exact ey_vret (W1 := fun (u : ep_R × ep_F) => [(h0, .inr (0, [.ref h1, .ref h2, .ref h3, .ref h4, .int u.1.2.2.2, .int (bch + 1)])), (h1, .inl (cI, 200, .inl u.1.1)), (h2, .inl (cI, 200, .inl u.1.2.1)), (h3, .inl (cI, 200, .inl u.1.2.2.1)), (h4, .inl (cI, 24, .inl u.2)), (k0, .inr (0, [.ref k1, .ref k2, .ref k3, .ref k4, .int bex, .int bch])), (k1, .inl (cI, 200, .inl bla)), (k2, .inl (cI, 200, .inl bfi)), (k3, .inl (cI, 200, .inl bsi))]) hx hb hr hlocks hP hD hS (q, g) [0, 1, 2, 3, 4, 5, 6, 7, 8] rfl (by decide) (by rw [← hg9, ← hu]; simp only [ep_fol, ↓reduceIte, c_23]) d_M_follow_82 (Nat.le_of_ble_eq_true rfl) (Nat.le_of_ble_eq_true rfl)
    · refine lv_iload hx hb d_M_follow_26 (lv_at hl 4 rfl) ?_
      refine lv_sipush (v := 200) hx hb d_M_follow_28 (by decide) ?_
      refine lv_icmp_ge (tgt := 82) hx hb d_M_follow_31 (by decide) (fun c_31 => ?_) (fun c_31 => ?_)
      · exact ey_vret (W1 := fun (u : ep_R × ep_F) => [(h0, .inr (0, [.ref h1, .ref h2, .ref h3, .ref h4, .int u.1.2.2.2, .int (bch + 1)])), (h1, .inl (cI, 200, .inl u.1.1)), (h2, .inl (cI, 200, .inl u.1.2.1)), (h3, .inl (cI, 200, .inl u.1.2.2.1)), (h4, .inl (cI, 24, .inl u.2)), (k0, .inr (0, [.ref k1, .ref k2, .ref k3, .ref k4, .int bex, .int bch])), (k1, .inl (cI, 200, .inl bla)), (k2, .inl (cI, 200, .inl bfi)), (k3, .inl (cI, 200, .inl bsi))]) hx hb hr hlocks hP hD hS (q, g) [0, 1, 2, 3, 4, 5, 6, 7, 8] rfl (by decide) (by rw [← hg9, ← hu]; simp only [ep_fol, ↓reduceIte, c_23, c_31]) d_M_follow_82 (Nat.le_of_ble_eq_true rfl) (Nat.le_of_ble_eq_true rfl)
      · have hlt : i < 200 := ey_lt200 (by omega) c_31
        refine lv_aload_n hx hb d_M_follow_34 rfl (lv_at hl 1 rfl) ?_
        refine va_get (D := (dC, dI)) (ci := 0) (v := .ref k1) (C := R_M) (T := T_M) (N := 6) hx hb hts in_M hown hK hP 5 rfl rfl 0 (by decide) (hts _ ew_83) (fun _ h9 => h9) rfl d_M_follow_35 ?_
        refine lv_iload hx hb d_M_follow_38 (lv_at hl 4 rfl) ?_
        refine va_iald hx hb hK hP 6 0 rfl rfl (vp_in_nI hlt (by decide)) d_M_follow_40 ?_
        refine lv_istore (lv' := [(5, .int (bla (nI i).toNatClampNeg)), (0, .ref h0), (1, .ref k0), (2, .int fr), (3, .int to), (4, .int (nI i))]) hx hb d_M_follow_41 hl (by decide) rfl (fun ls hl => ?_)
        refine lv_iload hx hb d_M_follow_43 (lv_at hl 0 rfl) ?_
        refine lv_iload_n hx hb d_M_follow_45 rfl (lv_at hl 3 rfl) ?_
        refine lv_icmp_lt (tgt := 55) hx hb d_M_follow_46 (by decide) (fun c_46 => ?_) (fun c_46 => ?_)
        · refine lv_aload_n hx hb d_M_follow_55 rfl (lv_at hl 1 rfl) ?_
          refine lv_iload hx hb d_M_follow_56 (lv_at hl 0 rfl) ?_
          refine lv_aload_n hx hb d_M_follow_58 rfl (lv_at hl 2 rfl) ?_
          refine va_get (D := (dC, dI)) (ci := 0) (v := .ref k2) (C := R_M) (T := T_M) (N := 6) hx hb hts in_M hown hK hP 5 rfl rfl 1 (by decide) (hts _ ew_85) (fun _ h9 => h9) rfl d_M_follow_59 ?_
          refine lv_iload hx hb d_M_follow_62 (lv_at hl 5 rfl) ?_
          refine va_iald hx hb hK hP 7 0 rfl rfl (vp_in_nI hlt (by decide)) d_M_follow_64 ?_
          refine lv_aload_n hx hb d_M_follow_65 rfl (lv_at hl 2 rfl) ?_
          refine va_get (D := (dC, dI)) (ci := 0) (v := .ref k3) (C := R_M) (T := T_M) (N := 6) hx hb hts in_M hown hK hP 5 rfl rfl 2 (by decide) (hts _ ew_87) (fun _ h9 => h9) rfl d_M_follow_66 ?_
          refine lv_iload hx hb d_M_follow_69 (lv_at hl 5 rfl) ?_
          refine va_iald hx hb hK hP 8 0 rfl rfl (vp_in_nI hlt (by decide)) d_M_follow_71 ?_
          refine ey_Vi (Wc := [(h0, .inr (0, [.ref h1, .ref h2, .ref h3, .ref h4, .int q.2.2.2, .int (bch + 1)])), (h1, .inl (cI, 200, .inl q.1)), (h2, .inl (cI, 200, .inl q.2.1)), (h3, .inl (cI, 200, .inl q.2.2.1))]) (wr := [(h4, .inl (cI, 24, .inl g)), (k0, .inr (0, [.ref k1, .ref k2, .ref k3, .ref k4, .int bex, .int bch])), (k1, .inl (cI, 200, .inl bla)), (k2, .inl (cI, 200, .inl bfi)), (k3, .inl (cI, 200, .inl bsi))]) (As := [.int (bla (nI i).toNatClampNeg), .int (bfi (nI i).toNatClampNeg), .int (bsi (nI i).toNatClampNeg)]) (rest := []) ⟨hx, hb, hml, hown, hts⟩ (c_mf_add l dC dI cI cB cJ cZ h0 h1 h2 h3 h4 q.2.2.2 (bch + 1) q.1 q.2.1 q.2.2.1 (bla (nI i).toNatClampNeg) (bfi (nI i).toNatClampNeg) (bsi (nI i).toNatClampNeg)) (cwV 3 hts (ew_V ew_159 ew_160 ew_161 ew_17 g_M_add) rfl rfl rfl (by decide +kernel) ⟨Nat.le_of_ble_eq_true rfl, Nat.le_of_ble_eq_true rfl⟩) hK hG hP hD hS hA [0, 1, 2, 3] [4, 5, 6, 7, 8] rfl rfl (by decide) (by decide) (by decide) (ci := 0) (q0 := 0) rfl rfl rfl hl.1 rfl (Nat.le_of_ble_eq_true rfl) d_M_follow_72 ⟨Nat.le_of_ble_eq_true rfl, Nat.le_of_ble_eq_true rfl⟩ (fun r_1 u_2 H locs e_3 hP hD hS => ?_)
          have hP : va_P (dC, dI) vwCl [(h4, .inl (cI, 24, .inl g)), (k0, .inr (0, [.ref k1, .ref k2, .ref k3, .ref k4, .int bex, .int bch])), (k1, .inl (cI, 200, .inl bla)), (k2, .inl (cI, 200, .inl bfi)), (k3, .inl (cI, 200, .inl bsi)), (h0, .inr (0, [.ref h1, .ref h2, .ref h3, .ref h4, .int u_2.2.2.2, .int (bch + 1)])), (h1, .inl (cI, 200, .inl u_2.1)), (h2, .inl (cI, 200, .inl u_2.2.1)), (h3, .inl (cI, 200, .inl u_2.2.2.1))] H := hP
          have hD : va_D A [(h4, .inl (cI, 24, .inl g)), (k0, .inr (0, [.ref k1, .ref k2, .ref k3, .ref k4, .int bex, .int bch])), (k1, .inl (cI, 200, .inl bla)), (k2, .inl (cI, 200, .inl bfi)), (k3, .inl (cI, 200, .inl bsi)), (h0, .inr (0, [.ref h1, .ref h2, .ref h3, .ref h4, .int u_2.2.2.2, .int (bch + 1)])), (h1, .inl (cI, 200, .inl u_2.1)), (h2, .inl (cI, 200, .inl u_2.2.1)), (h3, .inl (cI, 200, .inl u_2.2.2.1))] := hD
          obtain ⟨rfl, rfl⟩ : r_1 = (ep_add (q.1, q.2.1, q.2.2.1, q.2.2.2) (bla (nI i).toNatClampNeg) (bfi (nI i).toNatClampNeg) (bsi (nI i).toNatClampNeg)).1 ∧ u_2 = (ep_add (q.1, q.2.1, q.2.2.1, q.2.2.2) (bla (nI i).toNatClampNeg) (bfi (nI i).toNatClampNeg) (bsi (nI i).toNatClampNeg)).2 := ⟨congrArg Prod.fst e_3, congrArg Prod.snd e_3⟩
          refine lv_pop hx hb d_M_follow_75 rfl ?_
          refine lv_iinc (v := nI (i + 1)) (lv' := [(4, .int (nI (i + 1))), (5, .int (bla (nI i).toNatClampNeg)), (0, .ref h0), (1, .ref k0), (2, .int fr), (3, .int to)]) hx hb d_M_follow_76 hl (k := 5) rfl (nI_1 i) (by decide) rfl (fun ls hl => ?_)
          refine lv_goto (tgt := 17) hx hb d_M_follow_79 (by decide) ?_
          exact ih (i + 1) ((ep_add q (bla (nI i).toNatClampNeg) (bfi (nI i).toNatClampNeg) (bsi (nI i).toNatClampNeg)).2) (by omega) (by omega) (by rw [← hu]; simp only [ep_fol, ep_fol1, ↓reduceIte, c_23, c_31, c_46]) _ _ (ey_P (is := [5, 6, 7, 8, 0, 1, 2, 3, 4]) hP rfl) (hD.sub [5, 6, 7, 8, 0, 1, 2, 3, 4] (by decide) rfl) hS ls (lv_sub hl [2, 3, 4, 5, 0] rfl)
        · refine lv_iload hx hb d_M_follow_49 (lv_at hl 0 rfl) ?_
          refine lv_iload_n hx hb d_M_follow_51 rfl (lv_at hl 4 rfl) ?_
          refine lv_icmp_le (tgt := 76) hx hb d_M_follow_52 (by decide) (fun c_52 => ?_) (fun c_52 => ?_)
          · refine lv_iinc (v := nI (i + 1)) (lv' := [(4, .int (nI (i + 1))), (5, .int (bla (nI i).toNatClampNeg)), (0, .ref h0), (1, .ref k0), (2, .int fr), (3, .int to)]) hx hb d_M_follow_76 hl (k := 5) rfl (nI_1 i) (by decide) rfl (fun ls hl => ?_)
            refine lv_goto (tgt := 17) hx hb d_M_follow_79 (by decide) ?_
            exact ih (i + 1) q (by omega) (by omega) (by rw [← hu]; simp only [ep_fol, ep_fol1, ↓reduceIte, c_23, c_31, c_46, c_52]) _ _ hP hD hS ls (lv_sub hl [2, 3, 4, 5, 0] rfl)
          · refine lv_aload_n hx hb d_M_follow_55 rfl (lv_at hl 1 rfl) ?_
            refine lv_iload hx hb d_M_follow_56 (lv_at hl 0 rfl) ?_
            refine lv_aload_n hx hb d_M_follow_58 rfl (lv_at hl 2 rfl) ?_
            refine va_get (D := (dC, dI)) (ci := 0) (v := .ref k2) (C := R_M) (T := T_M) (N := 6) hx hb hts in_M hown hK hP 5 rfl rfl 1 (by decide) (hts _ ew_85) (fun _ h9 => h9) rfl d_M_follow_59 ?_
            refine lv_iload hx hb d_M_follow_62 (lv_at hl 5 rfl) ?_
            refine va_iald hx hb hK hP 7 0 rfl rfl (vp_in_nI hlt (by decide)) d_M_follow_64 ?_
            refine lv_aload_n hx hb d_M_follow_65 rfl (lv_at hl 2 rfl) ?_
            refine va_get (D := (dC, dI)) (ci := 0) (v := .ref k3) (C := R_M) (T := T_M) (N := 6) hx hb hts in_M hown hK hP 5 rfl rfl 2 (by decide) (hts _ ew_87) (fun _ h9 => h9) rfl d_M_follow_66 ?_
            refine lv_iload hx hb d_M_follow_69 (lv_at hl 5 rfl) ?_
            refine va_iald hx hb hK hP 8 0 rfl rfl (vp_in_nI hlt (by decide)) d_M_follow_71 ?_
            refine ey_Vi (Wc := [(h0, .inr (0, [.ref h1, .ref h2, .ref h3, .ref h4, .int q.2.2.2, .int (bch + 1)])), (h1, .inl (cI, 200, .inl q.1)), (h2, .inl (cI, 200, .inl q.2.1)), (h3, .inl (cI, 200, .inl q.2.2.1))]) (wr := [(h4, .inl (cI, 24, .inl g)), (k0, .inr (0, [.ref k1, .ref k2, .ref k3, .ref k4, .int bex, .int bch])), (k1, .inl (cI, 200, .inl bla)), (k2, .inl (cI, 200, .inl bfi)), (k3, .inl (cI, 200, .inl bsi))]) (As := [.int (bla (nI i).toNatClampNeg), .int (bfi (nI i).toNatClampNeg), .int (bsi (nI i).toNatClampNeg)]) (rest := []) ⟨hx, hb, hml, hown, hts⟩ (c_mf_add l dC dI cI cB cJ cZ h0 h1 h2 h3 h4 q.2.2.2 (bch + 1) q.1 q.2.1 q.2.2.1 (bla (nI i).toNatClampNeg) (bfi (nI i).toNatClampNeg) (bsi (nI i).toNatClampNeg)) (cwV 3 hts (ew_V ew_159 ew_160 ew_161 ew_17 g_M_add) rfl rfl rfl (by decide +kernel) ⟨Nat.le_of_ble_eq_true rfl, Nat.le_of_ble_eq_true rfl⟩) hK hG hP hD hS hA [0, 1, 2, 3] [4, 5, 6, 7, 8] rfl rfl (by decide) (by decide) (by decide) (ci := 0) (q0 := 0) rfl rfl rfl hl.1 rfl (Nat.le_of_ble_eq_true rfl) d_M_follow_72 ⟨Nat.le_of_ble_eq_true rfl, Nat.le_of_ble_eq_true rfl⟩ (fun r_4 u_5 H locs e_6 hP hD hS => ?_)
            have hP : va_P (dC, dI) vwCl [(h4, .inl (cI, 24, .inl g)), (k0, .inr (0, [.ref k1, .ref k2, .ref k3, .ref k4, .int bex, .int bch])), (k1, .inl (cI, 200, .inl bla)), (k2, .inl (cI, 200, .inl bfi)), (k3, .inl (cI, 200, .inl bsi)), (h0, .inr (0, [.ref h1, .ref h2, .ref h3, .ref h4, .int u_5.2.2.2, .int (bch + 1)])), (h1, .inl (cI, 200, .inl u_5.1)), (h2, .inl (cI, 200, .inl u_5.2.1)), (h3, .inl (cI, 200, .inl u_5.2.2.1))] H := hP
            have hD : va_D A [(h4, .inl (cI, 24, .inl g)), (k0, .inr (0, [.ref k1, .ref k2, .ref k3, .ref k4, .int bex, .int bch])), (k1, .inl (cI, 200, .inl bla)), (k2, .inl (cI, 200, .inl bfi)), (k3, .inl (cI, 200, .inl bsi)), (h0, .inr (0, [.ref h1, .ref h2, .ref h3, .ref h4, .int u_5.2.2.2, .int (bch + 1)])), (h1, .inl (cI, 200, .inl u_5.1)), (h2, .inl (cI, 200, .inl u_5.2.1)), (h3, .inl (cI, 200, .inl u_5.2.2.1))] := hD
            obtain ⟨rfl, rfl⟩ : r_4 = (ep_add (q.1, q.2.1, q.2.2.1, q.2.2.2) (bla (nI i).toNatClampNeg) (bfi (nI i).toNatClampNeg) (bsi (nI i).toNatClampNeg)).1 ∧ u_5 = (ep_add (q.1, q.2.1, q.2.2.1, q.2.2.2) (bla (nI i).toNatClampNeg) (bfi (nI i).toNatClampNeg) (bsi (nI i).toNatClampNeg)).2 := ⟨congrArg Prod.fst e_6, congrArg Prod.snd e_6⟩
            refine lv_pop hx hb d_M_follow_75 rfl ?_
            refine lv_iinc (v := nI (i + 1)) (lv' := [(4, .int (nI (i + 1))), (5, .int (bla (nI i).toNatClampNeg)), (0, .ref h0), (1, .ref k0), (2, .int fr), (3, .int to)]) hx hb d_M_follow_76 hl (k := 5) rfl (nI_1 i) (by decide) rfl (fun ls hl => ?_)
            refine lv_goto (tgt := 17) hx hb d_M_follow_79 (by decide) ?_
            exact ih (i + 1) ((ep_add q (bla (nI i).toNatClampNeg) (bfi (nI i).toNatClampNeg) (bsi (nI i).toNatClampNeg)).2) (by omega) (by omega) (by rw [← hu]; simp only [ep_fol, ep_fol1, ↓reduceIte, c_23, c_31, c_46, c_52]) _ _ (ey_P (is := [5, 6, 7, 8, 0, 1, 2, 3, 4]) hP rfl) (hD.sub [5, 6, 7, 8, 0, 1, 2, 3, 4] (by decide) rfl) hS ls (lv_sub hl [2, 3, 4, 5, 0] rfl)
set_option maxHeartbeats 4000000 in
set_option maxRecDepth 100000 in
theorem c_mf_follow (l : Launch) (dC : Nat → ClassId) (dI : Nat → Nat → Nat) (cI cB cJ cZ : ClassId) (h0 h1 h2 h3 h4 : Nat) (ex ch : Int32) (la fi si no : ep_F) (k0 k1 k2 k3 k4 : Nat) (bex bch : Int32) (bla bfi bsi : ep_F) (fr to : Int32) : ey_Mv l y_M_follow w_M_follow { frames := 2, cells := 0, slots := 0, locals := 50 } (dC, dI) vwCl (ey_kt cI cB cJ cZ) [.ref h0, .ref k0, .int fr, .int to] [(h0, .inr (0, [.ref h1, .ref h2, .ref h3, .ref h4, .int ex, .int ch])), (h1, .inl (cI, 200, .inl la)), (h2, .inl (cI, 200, .inl fi)), (h3, .inl (cI, 200, .inl si)), (h4, .inl (cI, 24, .inl no)), (k0, .inr (0, [.ref k1, .ref k2, .ref k3, .ref k4, .int bex, .int bch])), (k1, .inl (cI, 200, .inl bla)), (k2, .inl (cI, 200, .inl bfi)), (k3, .inl (cI, 200, .inl bsi))] (fun (u : ep_R × ep_F) => u = (ep_fol bla bfi bsi bex fr to 201 0 (la, fi, si, 0), ep_fill 24 0 no)) (fun (u : ep_R × ep_F) => [(h0, .inr (0, [.ref h1, .ref h2, .ref h3, .ref h4, .int u.1.2.2.2, .int (bch + 1)])), (h1, .inl (cI, 200, .inl u.1.1)), (h2, .inl (cI, 200, .inl u.1.2.1)), (h3, .inl (cI, 200, .inl u.1.2.2.1)), (h4, .inl (cI, 24, .inl u.2)), (k0, .inr (0, [.ref k1, .ref k2, .ref k3, .ref k4, .int bex, .int bch])), (k1, .inl (cI, 200, .inl bla)), (k2, .inl (cI, 200, .inl bfi)), (k3, .inl (cI, 200, .inl bsi))]) 0 0 := by
  intro sz
  refine Met.ofW (cc := b_M_follow) (maxL := 6) (ret := none) (by decide) rfl ?_
  intro p e s m args below meth c s₁ B hml hv
  obtain ⟨rfl, hsz, hP, hK, hG, hD0⟩ := hv
  have hx := B.exec
  have hb := B.bytes
  have hr := B.returns
  have hts := fun (w : Cond) (h : w ∈ ew_T) => atoms_spec (ws := w_M_follow) B.pre w (List.mem_cons_of_mem _ h)
  have hown : s.vm.findClass R_M = some m.cls := findClass_of_methodNamed B.named
  have hlocks := B.notSynchronized
  subst hsz
  have hD := hD0.self (sz := s.heap.size)
  generalize hAe : va_A [(h0, .inr (0, [.ref h1, .ref h2, .ref h3, .ref h4, .int ex, .int ch])), (h1, .inl (cI, 200, .inl la)), (h2, .inl (cI, 200, .inl fi)), (h3, .inl (cI, 200, .inl si)), (h4, .inl (cI, 24, .inl no)), (k0, .inr (0, [.ref k1, .ref k2, .ref k3, .ref k4, .int bex, .int bch])), (k1, .inl (cI, 200, .inl bla)), (k2, .inl (cI, 200, .inl bfi)), (k3, .inl (cI, 200, .inl bsi))] s.heap.size = A at hD ⊢
  have hA : ∀ q : Nat, s.heap.size ≤ q → A q := fun q h => by rw [← hAe]; exact Or.inr h
  have hS : va_S A s.heap s.heap [] := va_S.rf
  have hP : va_P (dC, dI) vwCl [(h0, .inr (0, [.ref h1, .ref h2, .ref h3, .ref h4, .int ex, .int ch])), (h1, .inl (cI, 200, .inl la)), (h2, .inl (cI, 200, .inl fi)), (h3, .inl (cI, 200, .inl si)), (h4, .inl (cI, 24, .inl no)), (k0, .inr (0, [.ref k1, .ref k2, .ref k3, .ref k4, .int bex, .int bch])), (k1, .inl (cI, 200, .inl bla)), (k2, .inl (cI, 200, .inl bfi)), (k3, .inl (cI, 200, .inl bsi))] s.heap := hP
  have hl := lv_entry ([.ref h0, .ref k0, .int fr, .int to]) (n := 6) (Nat.le_of_ble_eq_true rfl)
  rw [lg_entry_eq]
  generalize (lg_sl ([.ref h0, .ref k0, .int fr, .int to]) ++ List.replicate (6 - (lg_sl ([.ref h0, .ref k0, .int fr, .int to])).length) Slot.unset).toArray = ls at hl ⊢
  have hl : lv_has ls 6 [(0, .ref h0), (1, .ref k0), (2, .int fr), (3, .int to)] := hl
  have C0 : ey_Cx p s m [.ref h0, .ref k0, .int fr, .int to].toArray meth c b_M_follow 6 R_M ew_T none A := ⟨hx, hb, hml, hown, hts, hr, hlocks, hA⟩
  refine lv_aload_n hx hb d_M_follow_0 rfl (lv_at hl 0 rfl) ?_
  refine ey_Vv (Wc := [(h0, .inr (0, [.ref h1, .ref h2, .ref h3, .ref h4, .int ex, .int ch])), (h4, .inl (cI, 24, .inl no))]) (wr := [(h1, .inl (cI, 200, .inl la)), (h2, .inl (cI, 200, .inl fi)), (h3, .inl (cI, 200, .inl si)), (k0, .inr (0, [.ref k1, .ref k2, .ref k3, .ref k4, .int bex, .int bch])), (k1, .inl (cI, 200, .inl bla)), (k2, .inl (cI, 200, .inl bfi)), (k3, .inl (cI, 200, .inl bsi))]) (As := []) (rest := []) ⟨hx, hb, hml, hown, hts⟩ (c_mf_clear l dC dI cI cB cJ cZ h0 h1 h2 h3 h4 ex ch no) (cwV 0 hts (ew_V ew_143 ew_144 ew_145 ew_17 g_M_clear) rfl rfl rfl (by decide +kernel) ⟨Nat.le_of_ble_eq_true rfl, Nat.le_of_ble_eq_true rfl⟩) hK hG hP hD hS hA [0, 4] [1, 2, 3, 5, 6, 7, 8] rfl rfl (by decide) (by decide) (by decide) (ci := 0) (q0 := 0) rfl rfl rfl hl.1 rfl (Nat.le_of_ble_eq_true rfl) d_M_follow_1 ⟨Nat.le_of_ble_eq_true rfl, Nat.le_of_ble_eq_true rfl⟩ (fun u_2 H locs e_3 hP hD hS => ?_)
  have hP : va_P (dC, dI) vwCl [(h1, .inl (cI, 200, .inl la)), (h2, .inl (cI, 200, .inl fi)), (h3, .inl (cI, 200, .inl si)), (k0, .inr (0, [.ref k1, .ref k2, .ref k3, .ref k4, .int bex, .int bch])), (k1, .inl (cI, 200, .inl bla)), (k2, .inl (cI, 200, .inl bfi)), (k3, .inl (cI, 200, .inl bsi)), (h0, .inr (0, [.ref h1, .ref h2, .ref h3, .ref h4, .int 0, .int 0])), (h4, .inl (cI, 24, .inl u_2))] H := hP
  have hD : va_D A [(h1, .inl (cI, 200, .inl la)), (h2, .inl (cI, 200, .inl fi)), (h3, .inl (cI, 200, .inl si)), (k0, .inr (0, [.ref k1, .ref k2, .ref k3, .ref k4, .int bex, .int bch])), (k1, .inl (cI, 200, .inl bla)), (k2, .inl (cI, 200, .inl bfi)), (k3, .inl (cI, 200, .inl bsi)), (h0, .inr (0, [.ref h1, .ref h2, .ref h3, .ref h4, .int 0, .int 0])), (h4, .inl (cI, 24, .inl u_2))] := hD
  subst e_3
  refine lv_aload_n hx hb d_M_follow_4 rfl (lv_at hl 0 rfl) ?_
  refine lv_aload_n hx hb d_M_follow_5 rfl (lv_at hl 1 rfl) ?_
  refine va_get (D := (dC, dI)) (ci := 0) (v := .int bch) (C := R_M) (T := T_M) (N := 6) hx hb hts in_M hown hK hP 3 rfl rfl 5 (by decide) (hts _ ew_93) (fun _ h9 => h9) rfl d_M_follow_6 ?_
  refine lv_iconst (v := 1) hx hb d_M_follow_9 (by decide) ?_
  refine lv_iadd hx hb d_M_follow_10 ?_
  refine va_put (D := (dC, dI)) (ci := 0) (v := .int (bch + 1)) (ty := .int) (C := R_M) (T := T_M) (N := 6) hx hb hts in_M t_M t_M_ok n_M hown hK hP hD hS 7 rfl rfl 5 (by decide) (hts _ ew_93) (fun _ h9 => h9) rfl (by decide +kernel) rfl rfl (Nat.le_of_ble_eq_true rfl) d_M_follow_11 (fun H locs hP hD hS => ?_)
  have hP : va_P (dC, dI) vwCl [(h1, .inl (cI, 200, .inl la)), (h2, .inl (cI, 200, .inl fi)), (h3, .inl (cI, 200, .inl si)), (k0, .inr (0, [.ref k1, .ref k2, .ref k3, .ref k4, .int bex, .int bch])), (k1, .inl (cI, 200, .inl bla)), (k2, .inl (cI, 200, .inl bfi)), (k3, .inl (cI, 200, .inl bsi)), (h0, .inr (0, [.ref h1, .ref h2, .ref h3, .ref h4, .int 0, .int (bch + 1)])), (h4, .inl (cI, 24, .inl (ep_fill 24 0 no)))] H := hP
  have hD : va_D A [(h1, .inl (cI, 200, .inl la)), (h2, .inl (cI, 200, .inl fi)), (h3, .inl (cI, 200, .inl si)), (k0, .inr (0, [.ref k1, .ref k2, .ref k3, .ref k4, .int bex, .int bch])), (k1, .inl (cI, 200, .inl bla)), (k2, .inl (cI, 200, .inl bfi)), (k3, .inl (cI, 200, .inl bsi)), (h0, .inr (0, [.ref h1, .ref h2, .ref h3, .ref h4, .int 0, .int (bch + 1)])), (h4, .inl (cI, 24, .inl (ep_fill 24 0 no)))] := hD
  refine lv_iconst (v := nI 0) hx hb d_M_follow_14 (by decide) ?_
  refine lv_istore (lv' := [(4, .int (nI 0)), (0, .ref h0), (1, .ref k0), (2, .int fr), (3, .int to)]) hx hb d_M_follow_15 hl (by decide) rfl (fun ls hl => ?_)
  exact c_mf_follow_L (h0 := h0) (h1 := h1) (h2 := h2) (h3 := h3) (h4 := h4) (ex := ex) (ch := ch) (la := la) (fi := fi) (si := si) (no := no) (k0 := k0) (k1 := k1) (k2 := k2) (k3 := k3) (k4 := k4) (bex := bex) (bch := bch) (bla := bla) (bfi := bfi) (bsi := bsi) (fr := fr) (to := to) (ep_fill 24 0 no) rfl hK hG C0 201 0 (la, fi, si, 0) rfl (by omega) rfl _ _ (ey_P (is := [7, 0, 1, 2, 8, 3, 4, 5, 6]) hP rfl) (hD.sub [7, 0, 1, 2, 8, 3, 4, 5, 6] (by decide) rfl) hS ls (lv_sub hl [1, 2, 3, 4, 0] rfl)
end
section
set_option maxHeartbeats 4000000 in
set_option maxRecDepth 100000 in
theorem c_ed_blocks (l : Launch) (dC : Nat → ClassId) (dI : Nat → Nat → Nat) (cI cB cJ cZ : ClassId) (x : Int32) : ey_Mi l y_D_blocksFor w_D_blocksFor { frames := 0, cells := 0, slots := 0, locals := 0 } (dC, dI) vwCl (ey_kt cI cB cJ cZ) [.int x] [] (fun (r : Int32) (u : Unit) => r = ep_blocks x) (fun (u : Unit) => []) 0 0 := by
  intro sz
  refine Met.ofW (cc := b_D_blocksFor) (maxL := 1) (ret := (some .int)) (by decide) rfl ?_
  intro p e s m args below meth c s₁ B hml hv
  obtain ⟨rfl, hsz, hP, hK, hG, hD0⟩ := hv
  have hx := B.exec
  have hb := B.bytes
  have hr := B.returns
  have hts := fun (w : Cond) (h : w ∈ ew_T) => atoms_spec (ws := w_D_blocksFor) B.pre w (List.mem_cons_of_mem _ h)
  have hown : s.vm.findClass R_D = some m.cls := findClass_of_methodNamed B.named
  have hlocks := B.notSynchronized
  subst hsz
  have hD := hD0.self (sz := s.heap.size)
  generalize hAe : va_A [] s.heap.size = A at hD ⊢
  have hA : ∀ q : Nat, s.heap.size ≤ q → A q := fun q h => by rw [← hAe]; exact Or.inr h
  have hS : va_S A s.heap s.heap [] := va_S.rf
  have hP : va_P (dC, dI) vwCl [] s.heap := hP
  have hl := lv_entry ([.int x]) (n := 1) (Nat.le_of_ble_eq_true rfl)
  rw [lg_entry_eq]
  generalize (lg_sl ([.int x]) ++ List.replicate (1 - (lg_sl ([.int x])).length) Slot.unset).toArray = ls at hl ⊢
  have hl : lv_has ls 1 [(0, .int x)] := hl
  refine lv_iload_n hx hb d_D_blocksFor_0 rfl (lv_at hl 0 rfl) ?_
  refine lv_sipush (v := 4096) hx hb d_D_blocksFor_1 (by decide) ?_
  refine lv_iadd hx hb d_D_blocksFor_4 ?_
  refine lv_iconst (v := 1) hx hb d_D_blocksFor_5 (by decide) ?_
  refine lv_isub hx hb d_D_blocksFor_6 ?_
  refine lv_sipush (v := 4096) hx hb d_D_blocksFor_7 (by decide) ?_
  refine lv_idiv hx hb d_D_blocksFor_10 (by decide) ?_
  exact ey_iret (W1 := fun (u : Unit) => []) hx hb hr hlocks hP hD hS () [] rfl (by decide) rfl d_D_blocksFor_11 (Nat.le_of_ble_eq_true rfl) (Nat.le_of_ble_eq_true rfl)
set_option maxHeartbeats 4000000 in
set_option maxRecDepth 100000 in
theorem c_mf_count_I {p : Program} {l : Launch} {e : Env} {s : State} {m : MethodId} {args : Array Value} {below : List Frame} {meth : Method} {c : Code} {dC : Nat → ClassId} {dI : Nat → Nat → Nat} {cI cB cJ cZ : ClassId} {A : Nat → Prop} {h0 h1 h2 h3 h4 : Nat} {ex ch : Int32} {fi si : ep_F} {h5 n : Nat} {t0 : ep_F} (hn : n < 2 ^ 30) (hK : va_K (dC, dI) vwCl (ey_kt cI cB cJ cZ) s) (hG : ex_G s) (C0 : ey_Cx p s m args meth c b_M_countTenants 5 R_M ew_T none A) (i : Nat) (en : Int32) (tf : ep_F) (kk : ∀ (H : Heap) (locs : List Loc) (ls : Array Slot), va_P (dC, dI) vwCl [(h0, .inr (0, [.ref h1, .ref h2, .ref h3, .ref h4, .int ex, .int ch])), (h2, .inl (cI, 200, .inl fi)), (h3, .inl (cI, 200, .inl si)), (h5, .inl (cI, n, .inl tf))] H → va_D A [(h0, .inr (0, [.ref h1, .ref h2, .ref h3, .ref h4, .int ex, .int ch])), (h2, .inl (cI, 200, .inl fi)), (h3, .inl (cI, 200, .inl si)), (h5, .inl (cI, n, .inl tf))] → va_S A s.heap H locs → lv_has ls 5 [(0, .ref h0), (1, .ref h5), (2, .int (nI i))] → W p l e { frames := 1, cells := 0, slots := 0, locals := 23 } s m args below meth c H locs 0 0 (MQ below (va_Qv (fun (u : ep_F) => u = ep_ten fi si ex n t0) (fun u t => ey_Post (dC, dI) vwCl A ((fun (u : ep_F) => [(h0, .inr (0, [.ref h1, .ref h2, .ref h3, .ref h4, .int ex, .int ch])), (h2, .inl (cI, 200, .inl fi)), (h3, .inl (cI, 200, .inl si)), (h5, .inl (cI, n, .inl u))]) u) t) A) args s 0 0 A) (F0 m 78 ls [])) :
    ∀ (fuel : Nat) (b : Int32) (t : ep_F) (hb0 : ¬ b < 0) (hf : n < fuel + b.toNatClampNeg) (hf1 : 1 ≤ fuel) (hu : ep_ct1 n en fuel b t = tf), ∀ (H : Heap) (locs : List Loc), va_P (dC, dI) vwCl [(h0, .inr (0, [.ref h1, .ref h2, .ref h3, .ref h4, .int ex, .int ch])), (h2, .inl (cI, 200, .inl fi)), (h3, .inl (cI, 200, .inl si)), (h5, .inl (cI, n, .inl t))] H → va_D A [(h0, .inr (0, [.ref h1, .ref h2, .ref h3, .ref h4, .int ex, .int ch])), (h2, .inl (cI, 200, .inl fi)), (h3, .inl (cI, 200, .inl si)), (h5, .inl (cI, n, .inl t))] → va_S A s.heap H locs → ∀ (ls : Array Slot), lv_has ls 5 [(0, .ref h0), (1, .ref h5), (2, .int (nI i)), (3, .int en), (4, .int b)] → W p l e { frames := 1, cells := 0, slots := 0, locals := 23 } s m args below meth c H locs 0 0 (MQ below (va_Qv (fun (u : ep_F) => u = ep_ten fi si ex n t0) (fun u t => ey_Post (dC, dI) vwCl A ((fun (u : ep_F) => [(h0, .inr (0, [.ref h1, .ref h2, .ref h3, .ref h4, .int ex, .int ch])), (h2, .inl (cI, 200, .inl fi)), (h3, .inl (cI, 200, .inl si)), (h5, .inl (cI, n, .inl u))]) u) t) A) args s 0 0 A) (F0 m 51 ls []) := by
  obtain ⟨hx, hb, hml, hown, hts, hr, hlocks, hA⟩ := id C0
  intro fuel
  induction fuel with
  | zero =>
    intro b t hb0 hf hf1 hu H locs hP hD hS ls hl
    exact absurd hf1 (by omega)
  | succ fuel ih =>
    intro b t hb0 hf hf1 hu H locs hP hD hS ls hl
    refine lv_iload hx hb d_M_countTenants_51 (lv_at hl 4 rfl) ?_
    refine lv_iload_n hx hb d_M_countTenants_53 rfl (lv_at hl 3 rfl) ?_
    refine lv_icmp_ge (tgt := 78) hx hb d_M_countTenants_54 (by decide) (fun c_54 => ?_) (fun c_54 => ?_)
    · have et : t = tf := by rw [← hu]; simp only [ep_ct1, ↓reduceIte, c_54]
      subst et
      exact kk _ _ _ hP hD hS (lv_sub hl [0, 1, 2] rfl)
    · refine lv_iload hx hb d_M_countTenants_57 (lv_at hl 4 rfl) ?_
      refine lv_aload_n hx hb d_M_countTenants_59 rfl (lv_at hl 1 rfl) ?_
      refine va_alen hx hb hK hP 3 0 rfl rfl (v := nI n) rfl d_M_countTenants_60 ?_
      refine lv_icmp_ge (tgt := 78) hx hb d_M_countTenants_61 (by decide) (fun c_61 => ?_) (fun c_61 => ?_)
      · have et : t = tf := by rw [← hu]; simp only [ep_ct1, ↓reduceIte, c_54, c_61]
        subst et
        exact kk _ _ _ hP hD hS (lv_sub hl [0, 1, 2] rfl)
      · refine lv_aload_n hx hb d_M_countTenants_64 rfl (lv_at hl 1 rfl) ?_
        refine lv_iload hx hb d_M_countTenants_65 (lv_at hl 4 rfl) ?_
        refine lv_dup2_11 hx hb d_M_countTenants_67 rfl rfl ?_
        refine va_iald hx hb hK hP 3 0 rfl rfl (ey_in (by omega) hb0 c_61) d_M_countTenants_68 ?_
        refine lv_iconst (v := 1) hx hb d_M_countTenants_69 (by decide) ?_
        refine lv_iadd hx hb d_M_countTenants_70 ?_
        refine va_iast hx hb hK hP hD hS 3 0 rfl rfl (ey_in (by omega) hb0 c_61) d_M_countTenants_71 (fun H locs hP hD hS => ?_)
        have hP : va_P (dC, dI) vwCl [(h0, .inr (0, [.ref h1, .ref h2, .ref h3, .ref h4, .int ex, .int ch])), (h2, .inl (cI, 200, .inl fi)), (h3, .inl (cI, 200, .inl si)), (h5, .inl (cI, n, .inl (upd t b.toNatClampNeg ((t b.toNatClampNeg) + 1))))] H := hP
        have hD : va_D A [(h0, .inr (0, [.ref h1, .ref h2, .ref h3, .ref h4, .int ex, .int ch])), (h2, .inl (cI, 200, .inl fi)), (h3, .inl (cI, 200, .inl si)), (h5, .inl (cI, n, .inl (upd t b.toNatClampNeg ((t b.toNatClampNeg) + 1))))] := hD
        refine lv_iinc (v := b + 1) (lv' := [(4, .int (b + 1)), (0, .ref h0), (1, .ref h5), (2, .int (nI i)), (3, .int en)]) hx hb d_M_countTenants_72 hl (k := 4) rfl (rfl) (by decide) rfl (fun ls hl => ?_)
        refine lv_goto (tgt := 51) hx hb d_M_countTenants_75 (by decide) ?_
        exact ih (b + 1) (upd t b.toNatClampNeg ((t b.toNatClampNeg) + 1)) (ey_ct_b hn c_61 hb0) (ey_ct_f hn c_61 hb0 hf) (ey_ct_1 hn c_61 hb0 hf) (by rw [← hu]; simp only [ep_ct1, ↓reduceIte, c_54, c_61]) _ _ hP hD hS ls (lv_sub hl [1, 2, 3, 4, 0] rfl)
set_option maxHeartbeats 4000000 in
set_option maxRecDepth 100000 in
theorem c_mf_count_L {p : Program} {l : Launch} {e : Env} {s : State} {m : MethodId} {args : Array Value} {below : List Frame} {meth : Method} {c : Code} {dC : Nat → ClassId} {dI : Nat → Nat → Nat} {cI cB cJ cZ : ClassId} {A : Nat → Prop} {h0 h1 h2 h3 h4 : Nat} {ex ch : Int32} {fi si : ep_F} {h5 n : Nat} {t0 : ep_F} (hn : n < 2 ^ 30) (hK : va_K (dC, dI) vwCl (ey_kt cI cB cJ cZ) s) (hG : ex_G s) (C0 : ey_Cx p s m args meth c b_M_countTenants 5 R_M ew_T none A)  :
    ∀ (fuel : Nat) (i : Nat) (t : ep_F) (hi : i + fuel = 201) (hin : i ≤ 200) (hu : ep_ct fi si ex n fuel i t = ep_ct fi si ex n 201 0 (ep_fill n 0 t0)), ∀ (H : Heap) (locs : List Loc), va_P (dC, dI) vwCl [(h0, .inr (0, [.ref h1, .ref h2, .ref h3, .ref h4, .int ex, .int ch])), (h2, .inl (cI, 200, .inl fi)), (h3, .inl (cI, 200, .inl si)), (h5, .inl (cI, n, .inl t))] H → va_D A [(h0, .inr (0, [.ref h1, .ref h2, .ref h3, .ref h4, .int ex, .int ch])), (h2, .inl (cI, 200, .inl fi)), (h3, .inl (cI, 200, .inl si)), (h5, .inl (cI, n, .inl t))] → va_S A s.heap H locs → ∀ (ls : Array Slot), lv_has ls 5 [(0, .ref h0), (1, .ref h5), (2, .int (nI i))] → W p l e { frames := 1, cells := 0, slots := 0, locals := 23 } s m args below meth c H locs 0 0 (MQ below (va_Qv (fun (u : ep_F) => u = ep_ten fi si ex n t0) (fun u t => ey_Post (dC, dI) vwCl A ((fun (u : ep_F) => [(h0, .inr (0, [.ref h1, .ref h2, .ref h3, .ref h4, .int ex, .int ch])), (h2, .inl (cI, 200, .inl fi)), (h3, .inl (cI, 200, .inl si)), (h5, .inl (cI, n, .inl u))]) u) t) A) args s 0 0 A) (F0 m 7 ls []) := by
  obtain ⟨hx, hb, hml, hown, hts, hr, hlocks, hA⟩ := id C0
  intro fuel
  induction fuel with
  | zero =>
    intro i t hi hin hu H locs hP hD hS ls hl
    exact absurd hi (by omega)
  | succ fuel ih =>
    intro i t hi hin hu H locs hP hD hS ls hl
    refine lv_iload_n hx hb d_M_countTenants_7 rfl (lv_at hl 2 rfl) ?_
    refine lv_aload_n hx hb d_M_countTenants_8 rfl (lv_at hl 0 rfl) ?_
    refine va_get (D := (dC, dI)) (ci := 0) (v := .int ex) (C := R_M) (T := T_M) (N := 6) hx hb hts in_M hown hK hP 0 rfl rfl 4 (by decide) (hts _ ew_91) (fun _ h9 => h9) rfl d_M_countTenants_9 ?_
    refine lv_icmp_ge (tgt := 84) hx hb d_M_countTenants_12 (by decide) (fun c_12 => ?_) (fun c_12 => ?_)
    · exact ey_vret (W1 := fun (u : ep_F) => [(h0, .inr (0, [.ref h1, .ref h2, .ref h3, .ref h4, .int ex, .int ch])), (h2, .inl (cI, 200, .inl fi)), (h3, .inl (cI, 200, .inl si)), (h5, .inl (cI, n, .inl u))]) hx hb hr hlocks hP hD hS t [0, 1, 2, 3] rfl (by decide) (by rw [ep_ten, ← hu]; simp only [ep_ct, ↓reduceIte, c_12]) d_M_countTenants_84 (Nat.le_of_ble_eq_true rfl) (Nat.le_of_ble_eq_true rfl)
    · refine lv_iload_n hx hb d_M_countTenants_15 rfl (lv_at hl 2 rfl) ?_
      refine lv_sipush (v := 200) hx hb d_M_countTenants_16 (by decide) ?_
      refine lv_icmp_ge (tgt := 84) hx hb d_M_countTenants_19 (by decide) (fun c_19 => ?_) (fun c_19 => ?_)
      · exact ey_vret (W1 := fun (u : ep_F) => [(h0, .inr (0, [.ref h1, .ref h2, .ref h3, .ref h4, .int ex, .int ch])), (h2, .inl (cI, 200, .inl fi)), (h3, .inl (cI, 200, .inl si)), (h5, .inl (cI, n, .inl u))]) hx hb hr hlocks hP hD hS t [0, 1, 2, 3] rfl (by decide) (by rw [ep_ten, ← hu]; simp only [ep_ct, ↓reduceIte, c_12, c_19]) d_M_countTenants_84 (Nat.le_of_ble_eq_true rfl) (Nat.le_of_ble_eq_true rfl)
      · have hlt : i < 200 := ey_lt200 (by omega) c_19
        refine lv_aload_n hx hb d_M_countTenants_22 rfl (lv_at hl 0 rfl) ?_
        refine va_get (D := (dC, dI)) (ci := 0) (v := .ref h2) (C := R_M) (T := T_M) (N := 6) hx hb hts in_M hown hK hP 0 rfl rfl 1 (by decide) (hts _ ew_85) (fun _ h9 => h9) rfl d_M_countTenants_23 ?_
        refine lv_iload_n hx hb d_M_countTenants_26 rfl (lv_at hl 2 rfl) ?_
        refine va_iald hx hb hK hP 1 0 rfl rfl (vp_in_nI hlt (by decide)) d_M_countTenants_27 ?_
        refine lv_aload_n hx hb d_M_countTenants_28 rfl (lv_at hl 0 rfl) ?_
        refine va_get (D := (dC, dI)) (ci := 0) (v := .ref h3) (C := R_M) (T := T_M) (N := 6) hx hb hts in_M hown hK hP 0 rfl rfl 2 (by decide) (hts _ ew_87) (fun _ h9 => h9) rfl d_M_countTenants_29 ?_
        refine lv_iload_n hx hb d_M_countTenants_32 rfl (lv_at hl 2 rfl) ?_
        refine va_iald hx hb hK hP 2 0 rfl rfl (vp_in_nI hlt (by decide)) d_M_countTenants_33 ?_
        refine ey_SNi (Wc := []) (wr := [(h0, .inr (0, [.ref h1, .ref h2, .ref h3, .ref h4, .int ex, .int ch])), (h2, .inl (cI, 200, .inl fi)), (h3, .inl (cI, 200, .inl si)), (h5, .inl (cI, n, .inl t))]) (As := [.int (si (nI i).toNatClampNeg)]) (rest := [.int (fi (nI i).toNatClampNeg)]) ⟨hx, hb, hml, hown, hts⟩ (c_ed_blocks l dC dI cI cB cJ cZ (si (nI i).toNatClampNeg)) (va_cnB 1 hts g_D_blocksFor rfl rfl rfl (ex_nest_R_M_44 hG) (hts _ ew_13) (by decide +kernel) ⟨Nat.le_of_ble_eq_true rfl, Nat.le_of_ble_eq_true rfl⟩) (hts _ ew_328) hK hG hP hD hS hA [] [0, 1, 2, 3] rfl rfl (by decide) (by decide) (by decide) rfl hl.1 rfl (Nat.le_of_ble_eq_true rfl) d_M_countTenants_34 ⟨Nat.le_of_ble_eq_true rfl, Nat.le_of_ble_eq_true rfl⟩ (fun r_1 u_2 H locs e_3 hP hD hS => ?_)
        have hP : va_P (dC, dI) vwCl [(h0, .inr (0, [.ref h1, .ref h2, .ref h3, .ref h4, .int ex, .int ch])), (h2, .inl (cI, 200, .inl fi)), (h3, .inl (cI, 200, .inl si)), (h5, .inl (cI, n, .inl t))] H := hP
        have hD : va_D A [(h0, .inr (0, [.ref h1, .ref h2, .ref h3, .ref h4, .int ex, .int ch])), (h2, .inl (cI, 200, .inl fi)), (h3, .inl (cI, 200, .inl si)), (h5, .inl (cI, n, .inl t))] := hD
        subst e_3
        refine lv_iadd hx hb d_M_countTenants_37 ?_
        refine lv_istore_n (lv' := [(3, .int ((fi (nI i).toNatClampNeg) + (ep_blocks (si (nI i).toNatClampNeg)))), (0, .ref h0), (1, .ref h5), (2, .int (nI i))]) hx hb d_M_countTenants_38 rfl hl (by decide) rfl (fun ls hl => ?_)
        refine lv_iconst (v := 0) hx hb d_M_countTenants_39 (by decide) ?_
        refine lv_aload_n hx hb d_M_countTenants_40 rfl (lv_at hl 1 rfl) ?_
        refine va_get (D := (dC, dI)) (ci := 0) (v := .ref h2) (C := R_M) (T := T_M) (N := 6) hx hb hts in_M hown hK hP 0 rfl rfl 1 (by decide) (hts _ ew_85) (fun _ h9 => h9) rfl d_M_countTenants_41 ?_
        refine lv_iload_n hx hb d_M_countTenants_44 rfl (lv_at hl 3 rfl) ?_
        refine va_iald hx hb hK hP 1 0 rfl rfl (vp_in_nI hlt (by decide)) d_M_countTenants_45 ?_
        refine va_mmax hx hb (by rw [hml]; exact hl.1.symm) hown (hts _ ew_339) (hts _ ew_38) (hts _ ew_14) (hts _ ew_39) (Nat.le_of_ble_eq_true rfl) (Nat.le_of_ble_eq_true rfl) (Nat.le_of_ble_eq_true rfl) (Nat.le_of_ble_eq_true rfl) d_M_countTenants_46 ?_
        refine lv_istore (lv' := [(4, .int (if 0 < (fi (nI i).toNatClampNeg) then (fi (nI i).toNatClampNeg) else 0 : Int32)), (3, .int ((fi (nI i).toNatClampNeg) + (ep_blocks (si (nI i).toNatClampNeg)))), (0, .ref h0), (1, .ref h5), (2, .int (nI i))]) hx hb d_M_countTenants_49 hl (by decide) rfl (fun ls hl => ?_)
        refine c_mf_count_I (h0 := h0) (h1 := h1) (h2 := h2) (h3 := h3) (h4 := h4) (ex := ex) (ch := ch) (fi := fi) (si := si) (h5 := h5) (n := n) (t0 := t0) hn hK hG C0 i ((fi (nI i).toNatClampNeg) + (ep_blocks (si (nI i).toNatClampNeg))) (ep_ct1 n ((fi (nI i).toNatClampNeg) + (ep_blocks (si (nI i).toNatClampNeg))) (n + 1) (if 0 < (fi (nI i).toNatClampNeg) then (fi (nI i).toNatClampNeg) else 0 : Int32) t) (fun H locs ls hP hD hS hl => ?_) (n + 1) (if 0 < (fi (nI i).toNatClampNeg) then (fi (nI i).toNatClampNeg) else 0 : Int32) t (ey_max0 _) (by omega) (by omega) rfl _ _ (ey_P (is := [0, 1, 2, 3]) hP rfl) (hD.sub [0, 1, 2, 3] (by decide) rfl) hS ls (lv_sub hl [2, 3, 4, 1, 0] rfl)
        refine lv_iinc (v := nI (i + 1)) (lv' := [(2, .int (nI (i + 1))), (0, .ref h0), (1, .ref h5)]) hx hb d_M_countTenants_78 hl (k := 2) rfl (nI_1 i) (by decide) rfl (fun ls hl => ?_)
        refine lv_goto (tgt := 7) hx hb d_M_countTenants_81 (by decide) ?_
        exact ih (i + 1) (ep_ct1 n ((fi (nI i).toNatClampNeg) + (ep_blocks (si (nI i).toNatClampNeg))) (n + 1) (if 0 < (fi (nI i).toNatClampNeg) then (fi (nI i).toNatClampNeg) else 0 : Int32) t) (by omega) (by omega) (by rw [← hu]; simp only [ep_ct, ↓reduceIte, c_12, c_19]) _ _ hP hD hS ls (lv_sub hl [1, 2, 0] rfl)
set_option maxHeartbeats 4000000 in
set_option maxRecDepth 100000 in
theorem c_mf_count (l : Launch) (dC : Nat → ClassId) (dI : Nat → Nat → Nat) (cI cB cJ cZ : ClassId) (h0 h1 h2 h3 h4 : Nat) (ex ch : Int32) (fi si : ep_F) (h5 n : Nat) (t0 : ep_F) (hn : n < 2 ^ 30) : ey_Mv l y_M_countTenants w_M_countTenants { frames := 1, cells := 0, slots := 0, locals := 23 } (dC, dI) vwCl (ey_kt cI cB cJ cZ) [.ref h0, .ref h5] [(h0, .inr (0, [.ref h1, .ref h2, .ref h3, .ref h4, .int ex, .int ch])), (h2, .inl (cI, 200, .inl fi)), (h3, .inl (cI, 200, .inl si)), (h5, .inl (cI, n, .inl t0))] (fun (u : ep_F) => u = ep_ten fi si ex n t0) (fun (u : ep_F) => [(h0, .inr (0, [.ref h1, .ref h2, .ref h3, .ref h4, .int ex, .int ch])), (h2, .inl (cI, 200, .inl fi)), (h3, .inl (cI, 200, .inl si)), (h5, .inl (cI, n, .inl u))]) 0 0 := by
  intro sz
  refine Met.ofW (cc := b_M_countTenants) (maxL := 5) (ret := none) (by decide) rfl ?_
  intro p e s m args below meth c s₁ B hml hv
  obtain ⟨rfl, hsz, hP, hK, hG, hD0⟩ := hv
  have hx := B.exec
  have hb := B.bytes
  have hr := B.returns
  have hts := fun (w : Cond) (h : w ∈ ew_T) => atoms_spec (ws := w_M_countTenants) B.pre w (List.mem_cons_of_mem _ h)
  have hown : s.vm.findClass R_M = some m.cls := findClass_of_methodNamed B.named
  have hlocks := B.notSynchronized
  subst hsz
  have hD := hD0.self (sz := s.heap.size)
  generalize hAe : va_A [(h0, .inr (0, [.ref h1, .ref h2, .ref h3, .ref h4, .int ex, .int ch])), (h2, .inl (cI, 200, .inl fi)), (h3, .inl (cI, 200, .inl si)), (h5, .inl (cI, n, .inl t0))] s.heap.size = A at hD ⊢
  have hA : ∀ q : Nat, s.heap.size ≤ q → A q := fun q h => by rw [← hAe]; exact Or.inr h
  have hS : va_S A s.heap s.heap [] := va_S.rf
  have hP : va_P (dC, dI) vwCl [(h0, .inr (0, [.ref h1, .ref h2, .ref h3, .ref h4, .int ex, .int ch])), (h2, .inl (cI, 200, .inl fi)), (h3, .inl (cI, 200, .inl si)), (h5, .inl (cI, n, .inl t0))] s.heap := hP
  have hl := lv_entry ([.ref h0, .ref h5]) (n := 5) (Nat.le_of_ble_eq_true rfl)
  rw [lg_entry_eq]
  generalize (lg_sl ([.ref h0, .ref h5]) ++ List.replicate (5 - (lg_sl ([.ref h0, .ref h5])).length) Slot.unset).toArray = ls at hl ⊢
  have hl : lv_has ls 5 [(0, .ref h0), (1, .ref h5)] := hl
  have C0 : ey_Cx p s m [.ref h0, .ref h5].toArray meth c b_M_countTenants 5 R_M ew_T none A := ⟨hx, hb, hml, hown, hts, hr, hlocks, hA⟩
  refine lv_aload_n hx hb d_M_countTenants_0 rfl (lv_at hl 1 rfl) ?_
  refine lv_iconst (v := 0) hx hb d_M_countTenants_1 (by decide) ?_
  refine ey_Sv (Wc := [(h5, .inl (cI, n, .inl t0))]) (wr := [(h0, .inr (0, [.ref h1, .ref h2, .ref h3, .ref h4, .int ex, .int ch])), (h2, .inl (cI, 200, .inl fi)), (h3, .inl (cI, 200, .inl si))]) (As := [.ref h5, .int 0]) (rest := []) ⟨hx, hb, hml, hown, hts⟩ (c_ar_fill l dC dI cI cB cJ cZ h5 n t0 0 (by omega)) (va_cwS 2 hts (ew_S ew_147 ew_148 ew_24 g_A_fill) rfl rfl rfl (by decide +kernel) ⟨Nat.le_of_ble_eq_true rfl, Nat.le_of_ble_eq_true rfl⟩) hK hG hP hD hS hA [3] [0, 1, 2] rfl rfl (by decide) (by decide) (by decide) rfl hl.1 rfl (Nat.le_of_ble_eq_true rfl) d_M_countTenants_2 ⟨Nat.le_of_ble_eq_true rfl, Nat.le_of_ble_eq_true rfl⟩ (fun u_2 H locs e_3 hP hD hS => ?_)
  have hP : va_P (dC, dI) vwCl [(h0, .inr (0, [.ref h1, .ref h2, .ref h3, .ref h4, .int ex, .int ch])), (h2, .inl (cI, 200, .inl fi)), (h3, .inl (cI, 200, .inl si)), (h5, .inl (cI, n, .inl u_2))] H := hP
  have hD : va_D A [(h0, .inr (0, [.ref h1, .ref h2, .ref h3, .ref h4, .int ex, .int ch])), (h2, .inl (cI, 200, .inl fi)), (h3, .inl (cI, 200, .inl si)), (h5, .inl (cI, n, .inl u_2))] := hD
  subst e_3
  refine lv_iconst (v := nI 0) hx hb d_M_countTenants_5 (by decide) ?_
  refine lv_istore_n (lv' := [(2, .int (nI 0)), (0, .ref h0), (1, .ref h5)]) hx hb d_M_countTenants_6 rfl hl (by decide) rfl (fun ls hl => ?_)
  exact c_mf_count_L (h0 := h0) (h1 := h1) (h2 := h2) (h3 := h3) (h4 := h4) (ex := ex) (ch := ch) (fi := fi) (si := si) (h5 := h5) (n := n) (t0 := t0) hn hK hG C0 201 0 (ep_fill n 0 t0) rfl (by omega) rfl _ _ hP hD hS ls (lv_sub hl [1, 2, 0] rfl)
end
section
set_option maxHeartbeats 4000000 in
set_option maxRecDepth 100000 in
theorem c_mf_si (l : Launch) (dC : Nat → ClassId) (dI : Nat → Nat → Nat) (cI cB cJ cZ : ClassId) (h0 n : Nat) (g : ep_F) (x y : Int32) (hn : n < 2 ^ 30) (hn4 : 4 ≤ n) : ey_Mv l y_M_storeInt w_M_storeInt { frames := 0, cells := 0, slots := 0, locals := 0 } (dC, dI) vwCl (ey_kt cI cB cJ cZ) [.ref h0, .int x, .int y] [(h0, .inl (cB, n, .inl g))] (fun (u : ep_F) => u = ep_si n g x y) (fun (u : ep_F) => [(h0, .inl (cB, n, .inl u))]) 0 0 := by
  intro sz
  refine Met.ofW (cc := b_M_storeInt) (maxL := 3) (ret := none) (by decide) rfl ?_
  intro p e s m args below meth c s₁ B hml hv
  obtain ⟨rfl, hsz, hP, hK, hG, hD0⟩ := hv
  have hx := B.exec
  have hb := B.bytes
  have hr := B.returns
  have hts := fun (w : Cond) (h : w ∈ ew_T) => atoms_spec (ws := w_M_storeInt) B.pre w (List.mem_cons_of_mem _ h)
  have hown : s.vm.findClass R_M = some m.cls := findClass_of_methodNamed B.named
  have hlocks := B.notSynchronized
  subst hsz
  have hD := hD0.self (sz := s.heap.size)
  generalize hAe : va_A [(h0, .inl (cB, n, .inl g))] s.heap.size = A at hD ⊢
  have hA : ∀ q : Nat, s.heap.size ≤ q → A q := fun q h => by rw [← hAe]; exact Or.inr h
  have hS : va_S A s.heap s.heap [] := va_S.rf
  have hP : va_P (dC, dI) vwCl [(h0, .inl (cB, n, .inl g))] s.heap := hP
  have hl := lv_entry ([.ref h0, .int x, .int y]) (n := 3) (Nat.le_of_ble_eq_true rfl)
  rw [lg_entry_eq]
  generalize (lg_sl ([.ref h0, .int x, .int y]) ++ List.replicate (3 - (lg_sl ([.ref h0, .int x, .int y])).length) Slot.unset).toArray = ls at hl ⊢
  have hl : lv_has ls 3 [(0, .ref h0), (1, .int x), (2, .int y)] := hl
  refine lv_iload_n hx hb d_M_storeInt_0 rfl (lv_at hl 1 rfl) ?_
  refine lv_if_lt (tgt := 12) hx hb d_M_storeInt_1 (by decide) (fun c_1 => ?_) (fun c_1 => ?_)
  · exact ey_vret (W1 := fun (u : ep_F) => [(h0, .inl (cB, n, .inl u))]) hx hb hr hlocks hP hD hS g [0] rfl (by decide) (by first | contradiction | (simp only [ep_si, ↓reduceIte, not_true_eq_false, not_false_eq_true, c_1])) d_M_storeInt_12 (Nat.le_of_ble_eq_true rfl) (Nat.le_of_ble_eq_true rfl)
  · refine lv_iload_n hx hb d_M_storeInt_4 rfl (lv_at hl 1 rfl) ?_
    refine lv_aload_n hx hb d_M_storeInt_5 rfl (lv_at hl 0 rfl) ?_
    refine va_alen hx hb hK hP 0 1 rfl rfl (v := nI n) rfl d_M_storeInt_6 ?_
    refine lv_iconst (v := 4) hx hb d_M_storeInt_7 (by decide) ?_
    refine lv_isub hx hb d_M_storeInt_8 ?_
    refine lv_icmp_le (tgt := 13) hx hb d_M_storeInt_9 (by decide) (fun c_9 => ?_) (fun c_9 => ?_)
    · refine lv_aload_n hx hb d_M_storeInt_13 rfl (lv_at hl 0 rfl) ?_
      refine lv_iload_n hx hb d_M_storeInt_14 rfl (lv_at hl 1 rfl) ?_
      refine lv_iload_n hx hb d_M_storeInt_15 rfl (lv_at hl 2 rfl) ?_
      refine lv_bipush (v := 24) hx hb d_M_storeInt_16 (by decide) ?_
      refine lv_iushr (v := ey_ushr y 24) hx hb d_M_storeInt_18 rfl ?_
      refine lv_i2b (v := (ey_ushr y 24).toInt8.toInt32) hx hb d_M_storeInt_19 rfl ?_
      refine va_bast hx hb hK hP hD hS 0 1 rfl rfl (ey_si0 hn hn4 c_1 c_9) d_M_storeInt_20 (fun H locs hP hD hS => ?_)
      have hP : va_P (dC, dI) vwCl [(h0, .inl (cB, n, .inl (upd g x.toNatClampNeg (vp_nar .byte ((ey_ushr y 24).toInt8.toInt32)))))] H := hP
      have hD : va_D A [(h0, .inl (cB, n, .inl (upd g x.toNatClampNeg (vp_nar .byte ((ey_ushr y 24).toInt8.toInt32)))))] := hD
      refine lv_aload_n hx hb d_M_storeInt_21 rfl (lv_at hl 0 rfl) ?_
      refine lv_iload_n hx hb d_M_storeInt_22 rfl (lv_at hl 1 rfl) ?_
      refine lv_iconst (v := 1) hx hb d_M_storeInt_23 (by decide) ?_
      refine lv_iadd hx hb d_M_storeInt_24 ?_
      refine lv_iload_n hx hb d_M_storeInt_25 rfl (lv_at hl 2 rfl) ?_
      refine lv_bipush (v := 16) hx hb d_M_storeInt_26 (by decide) ?_
      refine lv_iushr (v := ey_ushr y 16) hx hb d_M_storeInt_28 rfl ?_
      refine lv_i2b (v := (ey_ushr y 16).toInt8.toInt32) hx hb d_M_storeInt_29 rfl ?_
      refine va_bast hx hb hK hP hD hS 0 1 rfl rfl (ey_si1 hn hn4 c_1 c_9) d_M_storeInt_30 (fun H locs hP hD hS => ?_)
      have hP : va_P (dC, dI) vwCl [(h0, .inl (cB, n, .inl (upd (upd g x.toNatClampNeg (vp_nar .byte ((ey_ushr y 24).toInt8.toInt32))) (x + 1).toNatClampNeg (vp_nar .byte ((ey_ushr y 16).toInt8.toInt32)))))] H := hP
      have hD : va_D A [(h0, .inl (cB, n, .inl (upd (upd g x.toNatClampNeg (vp_nar .byte ((ey_ushr y 24).toInt8.toInt32))) (x + 1).toNatClampNeg (vp_nar .byte ((ey_ushr y 16).toInt8.toInt32)))))] := hD
      refine lv_aload_n hx hb d_M_storeInt_31 rfl (lv_at hl 0 rfl) ?_
      refine lv_iload_n hx hb d_M_storeInt_32 rfl (lv_at hl 1 rfl) ?_
      refine lv_iconst (v := 2) hx hb d_M_storeInt_33 (by decide) ?_
      refine lv_iadd hx hb d_M_storeInt_34 ?_
      refine lv_iload_n hx hb d_M_storeInt_35 rfl (lv_at hl 2 rfl) ?_
      refine lv_bipush (v := 8) hx hb d_M_storeInt_36 (by decide) ?_
      refine lv_iushr (v := ey_ushr y 8) hx hb d_M_storeInt_38 rfl ?_
      refine lv_i2b (v := (ey_ushr y 8).toInt8.toInt32) hx hb d_M_storeInt_39 rfl ?_
      refine va_bast hx hb hK hP hD hS 0 1 rfl rfl (ey_si2 hn hn4 c_1 c_9) d_M_storeInt_40 (fun H locs hP hD hS => ?_)
      have hP : va_P (dC, dI) vwCl [(h0, .inl (cB, n, .inl (upd (upd (upd g x.toNatClampNeg (vp_nar .byte ((ey_ushr y 24).toInt8.toInt32))) (x + 1).toNatClampNeg (vp_nar .byte ((ey_ushr y 16).toInt8.toInt32))) (x + 2).toNatClampNeg (vp_nar .byte ((ey_ushr y 8).toInt8.toInt32)))))] H := hP
      have hD : va_D A [(h0, .inl (cB, n, .inl (upd (upd (upd g x.toNatClampNeg (vp_nar .byte ((ey_ushr y 24).toInt8.toInt32))) (x + 1).toNatClampNeg (vp_nar .byte ((ey_ushr y 16).toInt8.toInt32))) (x + 2).toNatClampNeg (vp_nar .byte ((ey_ushr y 8).toInt8.toInt32)))))] := hD
      refine lv_aload_n hx hb d_M_storeInt_41 rfl (lv_at hl 0 rfl) ?_
      refine lv_iload_n hx hb d_M_storeInt_42 rfl (lv_at hl 1 rfl) ?_
      refine lv_iconst (v := 3) hx hb d_M_storeInt_43 (by decide) ?_
      refine lv_iadd hx hb d_M_storeInt_44 ?_
      refine lv_iload_n hx hb d_M_storeInt_45 rfl (lv_at hl 2 rfl) ?_
      refine lv_i2b (v := y.toInt8.toInt32) hx hb d_M_storeInt_46 rfl ?_
      refine va_bast hx hb hK hP hD hS 0 1 rfl rfl (ey_si3 hn hn4 c_1 c_9) d_M_storeInt_47 (fun H locs hP hD hS => ?_)
      have hP : va_P (dC, dI) vwCl [(h0, .inl (cB, n, .inl (upd (upd (upd (upd g x.toNatClampNeg (vp_nar .byte ((ey_ushr y 24).toInt8.toInt32))) (x + 1).toNatClampNeg (vp_nar .byte ((ey_ushr y 16).toInt8.toInt32))) (x + 2).toNatClampNeg (vp_nar .byte ((ey_ushr y 8).toInt8.toInt32))) (x + 3).toNatClampNeg (vp_nar .byte y.toInt8.toInt32))))] H := hP
      have hD : va_D A [(h0, .inl (cB, n, .inl (upd (upd (upd (upd g x.toNatClampNeg (vp_nar .byte ((ey_ushr y 24).toInt8.toInt32))) (x + 1).toNatClampNeg (vp_nar .byte ((ey_ushr y 16).toInt8.toInt32))) (x + 2).toNatClampNeg (vp_nar .byte ((ey_ushr y 8).toInt8.toInt32))) (x + 3).toNatClampNeg (vp_nar .byte y.toInt8.toInt32))))] := hD
      exact ey_vret (W1 := fun (u : ep_F) => [(h0, .inl (cB, n, .inl u))]) hx hb hr hlocks hP hD hS (upd (upd (upd (upd g x.toNatClampNeg (vp_nar .byte ((ey_ushr y 24).toInt8.toInt32))) (x + 1).toNatClampNeg (vp_nar .byte ((ey_ushr y 16).toInt8.toInt32))) (x + 2).toNatClampNeg (vp_nar .byte ((ey_ushr y 8).toInt8.toInt32))) (x + 3).toNatClampNeg (vp_nar .byte y.toInt8.toInt32)) [0] rfl (by decide) (by first | contradiction | (simp only [ep_si, ↓reduceIte, not_true_eq_false, not_false_eq_true, c_1, c_9])) d_M_storeInt_48 (Nat.le_of_ble_eq_true rfl) (Nat.le_of_ble_eq_true rfl)
    · exact ey_vret (W1 := fun (u : ep_F) => [(h0, .inl (cB, n, .inl u))]) hx hb hr hlocks hP hD hS g [0] rfl (by decide) (by first | contradiction | (simp only [ep_si, ↓reduceIte, not_true_eq_false, not_false_eq_true, c_1, c_9])) d_M_storeInt_12 (Nat.le_of_ble_eq_true rfl) (Nat.le_of_ble_eq_true rfl)
set_option maxHeartbeats 4000000 in
set_option maxRecDepth 100000 in
theorem c_mf_store_R {p : Program} {l : Launch} {e : Env} {s : State} {m : MethodId} {args : Array Value} {below : List Frame} {meth : Method} {c : Code} {dC : Nat → ClassId} {dI : Nat → Nat → Nat} {cI cB cJ cZ : ClassId} {A : Nat → Prop} {h0 h1 h2 h3 h4 : Nat} {ex ch : Int32} {la fi si no : ep_F} {h5 n : Nat} {g0 : ep_F} (hn : n < 2 ^ 30) (hn4 : 4 ≤ n) (hK : va_K (dC, dI) vwCl (ey_kt cI cB cJ cZ) s) (hG : ex_G s) (C0 : ey_Cx p s m args meth c b_M_store 4 R_M ew_T none A)  :
    ∀ (fuel : Nat) (i : Nat) (g : ep_F) (hi : i + fuel = 201) (hin : i ≤ 200) (hu : ep_sr la fi si ex n fuel i g = ep_sr la fi si ex n 201 0 (ep_sn no n 25 0 (ep_si n (ep_si n g0 0 ch) 4 ex))), ∀ (H : Heap) (locs : List Loc), va_P (dC, dI) vwCl [(h0, .inr (0, [.ref h1, .ref h2, .ref h3, .ref h4, .int ex, .int ch])), (h1, .inl (cI, 200, .inl la)), (h2, .inl (cI, 200, .inl fi)), (h3, .inl (cI, 200, .inl si)), (h4, .inl (cI, 24, .inl no)), (h5, .inl (cB, n, .inl g))] H → va_D A [(h0, .inr (0, [.ref h1, .ref h2, .ref h3, .ref h4, .int ex, .int ch])), (h1, .inl (cI, 200, .inl la)), (h2, .inl (cI, 200, .inl fi)), (h3, .inl (cI, 200, .inl si)), (h4, .inl (cI, 24, .inl no)), (h5, .inl (cB, n, .inl g))] → va_S A s.heap H locs → ∀ (ls : Array Slot), lv_has ls 4 [(0, .ref h0), (1, .ref h5), (2, .int (nI i))] → W p l e { frames := 1, cells := 0, slots := 0, locals := 22 } s m args below meth c H locs 0 0 (MQ below (va_Qv (fun (u : ep_F) => u = ep_store (la, fi, si, ex) no ch n g0) (fun u t => ey_Post (dC, dI) vwCl A ((fun (u : ep_F) => [(h0, .inr (0, [.ref h1, .ref h2, .ref h3, .ref h4, .int ex, .int ch])), (h1, .inl (cI, 200, .inl la)), (h2, .inl (cI, 200, .inl fi)), (h3, .inl (cI, 200, .inl si)), (h4, .inl (cI, 24, .inl no)), (h5, .inl (cB, n, .inl u))]) u) t) A) args s 0 0 A) (F0 m 50 ls []) := by
  obtain ⟨hx, hb, hml, hown, hts, hr, hlocks, hA⟩ := id C0
  intro fuel
  induction fuel with
  | zero =>
    intro i g hi hin hu H locs hP hD hS ls hl
    exact absurd hi (by omega)
  | succ fuel ih =>
    intro i g hi hin hu H locs hP hD hS ls hl
    refine lv_iload_n hx hb d_M_store_50 rfl (lv_at hl 2 rfl) ?_
    refine lv_aload_n hx hb d_M_store_51 rfl (lv_at hl 0 rfl) ?_
    refine va_get (D := (dC, dI)) (ci := 0) (v := .int ex) (C := R_M) (T := T_M) (N := 6) hx hb hts in_M hown hK hP 0 rfl rfl 4 (by decide) (hts _ ew_91) (fun _ h9 => h9) rfl d_M_store_52 ?_
    refine lv_icmp_ge (tgt := 117) hx hb d_M_store_55 (by decide) (fun c_55 => ?_) (fun c_55 => ?_)
    · exact ey_vret (W1 := fun (u : ep_F) => [(h0, .inr (0, [.ref h1, .ref h2, .ref h3, .ref h4, .int ex, .int ch])), (h1, .inl (cI, 200, .inl la)), (h2, .inl (cI, 200, .inl fi)), (h3, .inl (cI, 200, .inl si)), (h4, .inl (cI, 24, .inl no)), (h5, .inl (cB, n, .inl u))]) hx hb hr hlocks hP hD hS g [0, 1, 2, 3, 4, 5] rfl (by decide) (by rw [ep_store, ← hu]; simp only [ep_sr, ↓reduceIte, c_55]) d_M_store_117 (Nat.le_of_ble_eq_true rfl) (Nat.le_of_ble_eq_true rfl)
    · refine lv_iload_n hx hb d_M_store_58 rfl (lv_at hl 2 rfl) ?_
      refine lv_sipush (v := 200) hx hb d_M_store_59 (by decide) ?_
      refine lv_icmp_ge (tgt := 117) hx hb d_M_store_62 (by decide) (fun c_62 => ?_) (fun c_62 => ?_)
      · exact ey_vret (W1 := fun (u : ep_F) => [(h0, .inr (0, [.ref h1, .ref h2, .ref h3, .ref h4, .int ex, .int ch])), (h1, .inl (cI, 200, .inl la)), (h2, .inl (cI, 200, .inl fi)), (h3, .inl (cI, 200, .inl si)), (h4, .inl (cI, 24, .inl no)), (h5, .inl (cB, n, .inl u))]) hx hb hr hlocks hP hD hS g [0, 1, 2, 3, 4, 5] rfl (by decide) (by rw [ep_store, ← hu]; simp only [ep_sr, ↓reduceIte, c_55, c_62]) d_M_store_117 (Nat.le_of_ble_eq_true rfl) (Nat.le_of_ble_eq_true rfl)
      · have hlt : i < 200 := ey_lt200 (by omega) c_62
        refine lv_bipush (v := 104) hx hb d_M_store_65 (by decide) ?_
        refine lv_bipush (v := 12) hx hb d_M_store_67 (by decide) ?_
        refine lv_iload_n hx hb d_M_store_69 rfl (lv_at hl 2 rfl) ?_
        refine lv_imul hx hb d_M_store_70 ?_
        refine lv_iadd hx hb d_M_store_71 ?_
        refine lv_istore_n (lv' := [(3, .int (104 + (12 * (nI i)))), (0, .ref h0), (1, .ref h5), (2, .int (nI i))]) hx hb d_M_store_72 rfl hl (by decide) rfl (fun ls hl => ?_)
        refine lv_aload_n hx hb d_M_store_73 rfl (lv_at hl 2 rfl) ?_
        refine lv_iload_n hx hb d_M_store_74 rfl (lv_at hl 0 rfl) ?_
        refine lv_aload_n hx hb d_M_store_75 rfl (lv_at hl 1 rfl) ?_
        refine va_get (D := (dC, dI)) (ci := 0) (v := .ref h1) (C := R_M) (T := T_M) (N := 6) hx hb hts in_M hown hK hP 0 rfl rfl 0 (by decide) (hts _ ew_83) (fun _ h9 => h9) rfl d_M_store_76 ?_
        refine lv_iload_n hx hb d_M_store_79 rfl (lv_at hl 3 rfl) ?_
        refine va_iald hx hb hK hP 1 0 rfl rfl (vp_in_nI hlt (by decide)) d_M_store_80 ?_
        refine ey_Sv (Wc := [(h5, .inl (cB, n, .inl g))]) (wr := [(h0, .inr (0, [.ref h1, .ref h2, .ref h3, .ref h4, .int ex, .int ch])), (h1, .inl (cI, 200, .inl la)), (h2, .inl (cI, 200, .inl fi)), (h3, .inl (cI, 200, .inl si)), (h4, .inl (cI, 24, .inl no))]) (As := [.ref h5, .int (104 + (12 * (nI i))), .int (la (nI i).toNatClampNeg)]) (rest := []) ⟨hx, hb, hml, hown, hts⟩ (c_mf_si l dC dI cI cB cJ cZ h5 n g (104 + (12 * (nI i))) (la (nI i).toNatClampNeg) hn hn4) (va_cwS 3 hts (ew_S ew_361 ew_362 ew_17 g_M_storeInt) rfl rfl rfl (by decide +kernel) ⟨Nat.le_of_ble_eq_true rfl, Nat.le_of_ble_eq_true rfl⟩) hK hG hP hD hS hA [5] [0, 1, 2, 3, 4] rfl rfl (by decide) (by decide) (by decide) rfl hl.1 rfl (Nat.le_of_ble_eq_true rfl) d_M_store_81 ⟨Nat.le_of_ble_eq_true rfl, Nat.le_of_ble_eq_true rfl⟩ (fun u_2 H locs e_3 hP hD hS => ?_)
        have hP : va_P (dC, dI) vwCl [(h0, .inr (0, [.ref h1, .ref h2, .ref h3, .ref h4, .int ex, .int ch])), (h1, .inl (cI, 200, .inl la)), (h2, .inl (cI, 200, .inl fi)), (h3, .inl (cI, 200, .inl si)), (h4, .inl (cI, 24, .inl no)), (h5, .inl (cB, n, .inl u_2))] H := hP
        have hD : va_D A [(h0, .inr (0, [.ref h1, .ref h2, .ref h3, .ref h4, .int ex, .int ch])), (h1, .inl (cI, 200, .inl la)), (h2, .inl (cI, 200, .inl fi)), (h3, .inl (cI, 200, .inl si)), (h4, .inl (cI, 24, .inl no)), (h5, .inl (cB, n, .inl u_2))] := hD
        subst e_3
        refine lv_aload_n hx hb d_M_store_84 rfl (lv_at hl 2 rfl) ?_
        refine lv_iload_n hx hb d_M_store_85 rfl (lv_at hl 0 rfl) ?_
        refine lv_iconst (v := 4) hx hb d_M_store_86 (by decide) ?_
        refine lv_iadd hx hb d_M_store_87 ?_
        refine lv_aload_n hx hb d_M_store_88 rfl (lv_at hl 1 rfl) ?_
        refine va_get (D := (dC, dI)) (ci := 0) (v := .ref h2) (C := R_M) (T := T_M) (N := 6) hx hb hts in_M hown hK hP 0 rfl rfl 1 (by decide) (hts _ ew_85) (fun _ h9 => h9) rfl d_M_store_89 ?_
        refine lv_iload_n hx hb d_M_store_92 rfl (lv_at hl 3 rfl) ?_
        refine va_iald hx hb hK hP 2 0 rfl rfl (vp_in_nI hlt (by decide)) d_M_store_93 ?_
        refine ey_Sv (Wc := [(h5, .inl (cB, n, .inl (ep_si n g (104 + (12 * (nI i))) (la (nI i).toNatClampNeg))))]) (wr := [(h0, .inr (0, [.ref h1, .ref h2, .ref h3, .ref h4, .int ex, .int ch])), (h1, .inl (cI, 200, .inl la)), (h2, .inl (cI, 200, .inl fi)), (h3, .inl (cI, 200, .inl si)), (h4, .inl (cI, 24, .inl no))]) (As := [.ref h5, .int ((104 + (12 * (nI i))) + 4), .int (fi (nI i).toNatClampNeg)]) (rest := []) ⟨hx, hb, hml, hown, hts⟩ (c_mf_si l dC dI cI cB cJ cZ h5 n (ep_si n g (104 + (12 * (nI i))) (la (nI i).toNatClampNeg)) ((104 + (12 * (nI i))) + 4) (fi (nI i).toNatClampNeg) hn hn4) (va_cwS 3 hts (ew_S ew_361 ew_362 ew_17 g_M_storeInt) rfl rfl rfl (by decide +kernel) ⟨Nat.le_of_ble_eq_true rfl, Nat.le_of_ble_eq_true rfl⟩) hK hG hP hD hS hA [5] [0, 1, 2, 3, 4] rfl rfl (by decide) (by decide) (by decide) rfl hl.1 rfl (Nat.le_of_ble_eq_true rfl) d_M_store_94 ⟨Nat.le_of_ble_eq_true rfl, Nat.le_of_ble_eq_true rfl⟩ (fun u_5 H locs e_6 hP hD hS => ?_)
        have hP : va_P (dC, dI) vwCl [(h0, .inr (0, [.ref h1, .ref h2, .ref h3, .ref h4, .int ex, .int ch])), (h1, .inl (cI, 200, .inl la)), (h2, .inl (cI, 200, .inl fi)), (h3, .inl (cI, 200, .inl si)), (h4, .inl (cI, 24, .inl no)), (h5, .inl (cB, n, .inl u_5))] H := hP
        have hD : va_D A [(h0, .inr (0, [.ref h1, .ref h2, .ref h3, .ref h4, .int ex, .int ch])), (h1, .inl (cI, 200, .inl la)), (h2, .inl (cI, 200, .inl fi)), (h3, .inl (cI, 200, .inl si)), (h4, .inl (cI, 24, .inl no)), (h5, .inl (cB, n, .inl u_5))] := hD
        subst e_6
        refine lv_aload_n hx hb d_M_store_97 rfl (lv_at hl 2 rfl) ?_
        refine lv_iload_n hx hb d_M_store_98 rfl (lv_at hl 0 rfl) ?_
        refine lv_bipush (v := 8) hx hb d_M_store_99 (by decide) ?_
        refine lv_iadd hx hb d_M_store_101 ?_
        refine lv_aload_n hx hb d_M_store_102 rfl (lv_at hl 1 rfl) ?_
        refine va_get (D := (dC, dI)) (ci := 0) (v := .ref h3) (C := R_M) (T := T_M) (N := 6) hx hb hts in_M hown hK hP 0 rfl rfl 2 (by decide) (hts _ ew_87) (fun _ h9 => h9) rfl d_M_store_103 ?_
        refine lv_iload_n hx hb d_M_store_106 rfl (lv_at hl 3 rfl) ?_
        refine va_iald hx hb hK hP 3 0 rfl rfl (vp_in_nI hlt (by decide)) d_M_store_107 ?_
        refine ey_Sv (Wc := [(h5, .inl (cB, n, .inl (ep_si n (ep_si n g (104 + (12 * (nI i))) (la (nI i).toNatClampNeg)) ((104 + (12 * (nI i))) + 4) (fi (nI i).toNatClampNeg))))]) (wr := [(h0, .inr (0, [.ref h1, .ref h2, .ref h3, .ref h4, .int ex, .int ch])), (h1, .inl (cI, 200, .inl la)), (h2, .inl (cI, 200, .inl fi)), (h3, .inl (cI, 200, .inl si)), (h4, .inl (cI, 24, .inl no))]) (As := [.ref h5, .int ((104 + (12 * (nI i))) + 8), .int (si (nI i).toNatClampNeg)]) (rest := []) ⟨hx, hb, hml, hown, hts⟩ (c_mf_si l dC dI cI cB cJ cZ h5 n (ep_si n (ep_si n g (104 + (12 * (nI i))) (la (nI i).toNatClampNeg)) ((104 + (12 * (nI i))) + 4) (fi (nI i).toNatClampNeg)) ((104 + (12 * (nI i))) + 8) (si (nI i).toNatClampNeg) hn hn4) (va_cwS 3 hts (ew_S ew_361 ew_362 ew_17 g_M_storeInt) rfl rfl rfl (by decide +kernel) ⟨Nat.le_of_ble_eq_true rfl, Nat.le_of_ble_eq_true rfl⟩) hK hG hP hD hS hA [5] [0, 1, 2, 3, 4] rfl rfl (by decide) (by decide) (by decide) rfl hl.1 rfl (Nat.le_of_ble_eq_true rfl) d_M_store_108 ⟨Nat.le_of_ble_eq_true rfl, Nat.le_of_ble_eq_true rfl⟩ (fun u_8 H locs e_9 hP hD hS => ?_)
        have hP : va_P (dC, dI) vwCl [(h0, .inr (0, [.ref h1, .ref h2, .ref h3, .ref h4, .int ex, .int ch])), (h1, .inl (cI, 200, .inl la)), (h2, .inl (cI, 200, .inl fi)), (h3, .inl (cI, 200, .inl si)), (h4, .inl (cI, 24, .inl no)), (h5, .inl (cB, n, .inl u_8))] H := hP
        have hD : va_D A [(h0, .inr (0, [.ref h1, .ref h2, .ref h3, .ref h4, .int ex, .int ch])), (h1, .inl (cI, 200, .inl la)), (h2, .inl (cI, 200, .inl fi)), (h3, .inl (cI, 200, .inl si)), (h4, .inl (cI, 24, .inl no)), (h5, .inl (cB, n, .inl u_8))] := hD
        subst e_9
        refine lv_iinc (v := nI (i + 1)) (lv' := [(2, .int (nI (i + 1))), (3, .int (104 + (12 * (nI i)))), (0, .ref h0), (1, .ref h5)]) hx hb d_M_store_111 hl (k := 3) rfl (nI_1 i) (by decide) rfl (fun ls hl => ?_)
        refine lv_goto (tgt := 50) hx hb d_M_store_114 (by decide) ?_
        exact ih (i + 1) (ep_si n (ep_si n (ep_si n g (104 + 12 * nI i) (la (nI i).toNatClampNeg)) (104 + 12 * nI i + 4) (fi (nI i).toNatClampNeg)) (104 + 12 * nI i + 8) (si (nI i).toNatClampNeg)) (by omega) (by omega) (by rw [← hu]; simp only [ep_sr, ↓reduceIte, c_55, c_62]) _ _ hP hD hS ls (lv_sub hl [2, 3, 0] rfl)
set_option maxHeartbeats 4000000 in
set_option maxRecDepth 100000 in
theorem c_mf_store_N {p : Program} {l : Launch} {e : Env} {s : State} {m : MethodId} {args : Array Value} {below : List Frame} {meth : Method} {c : Code} {dC : Nat → ClassId} {dI : Nat → Nat → Nat} {cI cB cJ cZ : ClassId} {A : Nat → Prop} {h0 h1 h2 h3 h4 : Nat} {ex ch : Int32} {la fi si no : ep_F} {h5 n : Nat} {g0 : ep_F} (hn : n < 2 ^ 30) (hn4 : 4 ≤ n) (hK : va_K (dC, dI) vwCl (ey_kt cI cB cJ cZ) s) (hG : ex_G s) (C0 : ey_Cx p s m args meth c b_M_store 4 R_M ew_T none A)  :
    ∀ (fuel : Nat) (i : Nat) (g : ep_F) (hi : i + fuel = 25) (hin : i ≤ 24) (hu : ep_sn no n fuel i g = ep_sn no n 25 0 (ep_si n (ep_si n g0 0 ch) 4 ex)), ∀ (H : Heap) (locs : List Loc), va_P (dC, dI) vwCl [(h0, .inr (0, [.ref h1, .ref h2, .ref h3, .ref h4, .int ex, .int ch])), (h1, .inl (cI, 200, .inl la)), (h2, .inl (cI, 200, .inl fi)), (h3, .inl (cI, 200, .inl si)), (h4, .inl (cI, 24, .inl no)), (h5, .inl (cB, n, .inl g))] H → va_D A [(h0, .inr (0, [.ref h1, .ref h2, .ref h3, .ref h4, .int ex, .int ch])), (h1, .inl (cI, 200, .inl la)), (h2, .inl (cI, 200, .inl fi)), (h3, .inl (cI, 200, .inl si)), (h4, .inl (cI, 24, .inl no)), (h5, .inl (cB, n, .inl g))] → va_S A s.heap H locs → ∀ (ls : Array Slot), lv_has ls 4 [(0, .ref h0), (1, .ref h5), (2, .int (nI i))] → W p l e { frames := 1, cells := 0, slots := 0, locals := 22 } s m args below meth c H locs 0 0 (MQ below (va_Qv (fun (u : ep_F) => u = ep_store (la, fi, si, ex) no ch n g0) (fun u t => ey_Post (dC, dI) vwCl A ((fun (u : ep_F) => [(h0, .inr (0, [.ref h1, .ref h2, .ref h3, .ref h4, .int ex, .int ch])), (h1, .inl (cI, 200, .inl la)), (h2, .inl (cI, 200, .inl fi)), (h3, .inl (cI, 200, .inl si)), (h4, .inl (cI, 24, .inl no)), (h5, .inl (cB, n, .inl u))]) u) t) A) args s 0 0 A) (F0 m 20 ls []) := by
  obtain ⟨hx, hb, hml, hown, hts, hr, hlocks, hA⟩ := id C0
  intro fuel
  induction fuel with
  | zero =>
    intro i g hi hin hu H locs hP hD hS ls hl
    exact absurd hi (by omega)
  | succ fuel ih =>
    intro i g hi hin hu H locs hP hD hS ls hl
    refine lv_iload_n hx hb d_M_store_20 rfl (lv_at hl 2 rfl) ?_
    refine lv_bipush (v := 24) hx hb d_M_store_21 (by decide) ?_
    refine lv_icmp_ge (tgt := 48) hx hb d_M_store_23 (by decide) (fun c_23 => ?_) (fun c_23 => ?_)
    · refine lv_iconst (v := nI 0) hx hb d_M_store_48 (by decide) ?_
      refine lv_istore_n (lv' := [(2, .int (nI 0)), (0, .ref h0), (1, .ref h5)]) hx hb d_M_store_49 rfl hl (by decide) rfl (fun ls hl => ?_)
      have eg : g = ep_sn no n 25 0 (ep_si n (ep_si n g0 0 ch) 4 ex) := by rw [← hu]; simp only [ep_sn, ↓reduceIte, c_23]
      subst eg
      exact c_mf_store_R (h0 := h0) (h1 := h1) (h2 := h2) (h3 := h3) (h4 := h4) (ex := ex) (ch := ch) (la := la) (fi := fi) (si := si) (no := no) (h5 := h5) (n := n) (g0 := g0) hn hn4 hK hG C0 201 0 (ep_sn no n 25 0 (ep_si n (ep_si n g0 0 ch) 4 ex)) rfl (by omega) rfl _ _ hP hD hS ls (lv_sub hl [1, 2, 0] rfl)
    · have hlt : i < 24 := ey_lt24 (by omega) c_23
      refine lv_aload_n hx hb d_M_store_26 rfl (lv_at hl 1 rfl) ?_
      refine lv_bipush (v := 8) hx hb d_M_store_27 (by decide) ?_
      refine lv_iconst (v := 4) hx hb d_M_store_29 (by decide) ?_
      refine lv_iload_n hx hb d_M_store_30 rfl (lv_at hl 2 rfl) ?_
      refine lv_imul hx hb d_M_store_31 ?_
      refine lv_iadd hx hb d_M_store_32 ?_
      refine lv_aload_n hx hb d_M_store_33 rfl (lv_at hl 0 rfl) ?_
      refine va_get (D := (dC, dI)) (ci := 0) (v := .ref h4) (C := R_M) (T := T_M) (N := 6) hx hb hts in_M hown hK hP 0 rfl rfl 3 (by decide) (hts _ ew_89) (fun _ h9 => h9) rfl d_M_store_34 ?_
      refine lv_iload_n hx hb d_M_store_37 rfl (lv_at hl 2 rfl) ?_
      refine va_iald hx hb hK hP 4 0 rfl rfl (vp_in_nI hlt (by decide)) d_M_store_38 ?_
      refine ey_Sv (Wc := [(h5, .inl (cB, n, .inl g))]) (wr := [(h0, .inr (0, [.ref h1, .ref h2, .ref h3, .ref h4, .int ex, .int ch])), (h1, .inl (cI, 200, .inl la)), (h2, .inl (cI, 200, .inl fi)), (h3, .inl (cI, 200, .inl si)), (h4, .inl (cI, 24, .inl no))]) (As := [.ref h5, .int (8 + (4 * (nI i))), .int (no (nI i).toNatClampNeg)]) (rest := []) ⟨hx, hb, hml, hown, hts⟩ (c_mf_si l dC dI cI cB cJ cZ h5 n g (8 + (4 * (nI i))) (no (nI i).toNatClampNeg) hn hn4) (va_cwS 3 hts (ew_S ew_361 ew_362 ew_17 g_M_storeInt) rfl rfl rfl (by decide +kernel) ⟨Nat.le_of_ble_eq_true rfl, Nat.le_of_ble_eq_true rfl⟩) hK hG hP hD hS hA [5] [0, 1, 2, 3, 4] rfl rfl (by decide) (by decide) (by decide) rfl hl.1 rfl (Nat.le_of_ble_eq_true rfl) d_M_store_39 ⟨Nat.le_of_ble_eq_true rfl, Nat.le_of_ble_eq_true rfl⟩ (fun u_2 H locs e_3 hP hD hS => ?_)
      have hP : va_P (dC, dI) vwCl [(h0, .inr (0, [.ref h1, .ref h2, .ref h3, .ref h4, .int ex, .int ch])), (h1, .inl (cI, 200, .inl la)), (h2, .inl (cI, 200, .inl fi)), (h3, .inl (cI, 200, .inl si)), (h4, .inl (cI, 24, .inl no)), (h5, .inl (cB, n, .inl u_2))] H := hP
      have hD : va_D A [(h0, .inr (0, [.ref h1, .ref h2, .ref h3, .ref h4, .int ex, .int ch])), (h1, .inl (cI, 200, .inl la)), (h2, .inl (cI, 200, .inl fi)), (h3, .inl (cI, 200, .inl si)), (h4, .inl (cI, 24, .inl no)), (h5, .inl (cB, n, .inl u_2))] := hD
      subst e_3
      refine lv_iinc (v := nI (i + 1)) (lv' := [(2, .int (nI (i + 1))), (0, .ref h0), (1, .ref h5)]) hx hb d_M_store_42 hl (k := 2) rfl (nI_1 i) (by decide) rfl (fun ls hl => ?_)
      refine lv_goto (tgt := 20) hx hb d_M_store_45 (by decide) ?_
      exact ih (i + 1) (ep_si n g (8 + 4 * nI i) (no (nI i).toNatClampNeg)) (by omega) (by omega) (by rw [← hu]; simp only [ep_sn, ↓reduceIte, c_23]) _ _ hP hD hS ls (lv_sub hl [1, 2, 0] rfl)
set_option maxHeartbeats 4000000 in
set_option maxRecDepth 100000 in
theorem c_mf_store (l : Launch) (dC : Nat → ClassId) (dI : Nat → Nat → Nat) (cI cB cJ cZ : ClassId) (h0 h1 h2 h3 h4 : Nat) (ex ch : Int32) (la fi si no : ep_F) (h5 n : Nat) (g0 : ep_F) (hn : n < 2 ^ 30) (hn4 : 4 ≤ n) : ey_Mv l y_M_store w_M_store { frames := 1, cells := 0, slots := 0, locals := 22 } (dC, dI) vwCl (ey_kt cI cB cJ cZ) [.ref h0, .ref h5] [(h0, .inr (0, [.ref h1, .ref h2, .ref h3, .ref h4, .int ex, .int ch])), (h1, .inl (cI, 200, .inl la)), (h2, .inl (cI, 200, .inl fi)), (h3, .inl (cI, 200, .inl si)), (h4, .inl (cI, 24, .inl no)), (h5, .inl (cB, n, .inl g0))] (fun (u : ep_F) => u = ep_store (la, fi, si, ex) no ch n g0) (fun (u : ep_F) => [(h0, .inr (0, [.ref h1, .ref h2, .ref h3, .ref h4, .int ex, .int ch])), (h1, .inl (cI, 200, .inl la)), (h2, .inl (cI, 200, .inl fi)), (h3, .inl (cI, 200, .inl si)), (h4, .inl (cI, 24, .inl no)), (h5, .inl (cB, n, .inl u))]) 0 0 := by
  intro sz
  refine Met.ofW (cc := b_M_store) (maxL := 4) (ret := none) (by decide) rfl ?_
  intro p e s m args below meth c s₁ B hml hv
  obtain ⟨rfl, hsz, hP, hK, hG, hD0⟩ := hv
  have hx := B.exec
  have hb := B.bytes
  have hr := B.returns
  have hts := fun (w : Cond) (h : w ∈ ew_T) => atoms_spec (ws := w_M_store) B.pre w (List.mem_cons_of_mem _ h)
  have hown : s.vm.findClass R_M = some m.cls := findClass_of_methodNamed B.named
  have hlocks := B.notSynchronized
  subst hsz
  have hD := hD0.self (sz := s.heap.size)
  generalize hAe : va_A [(h0, .inr (0, [.ref h1, .ref h2, .ref h3, .ref h4, .int ex, .int ch])), (h1, .inl (cI, 200, .inl la)), (h2, .inl (cI, 200, .inl fi)), (h3, .inl (cI, 200, .inl si)), (h4, .inl (cI, 24, .inl no)), (h5, .inl (cB, n, .inl g0))] s.heap.size = A at hD ⊢
  have hA : ∀ q : Nat, s.heap.size ≤ q → A q := fun q h => by rw [← hAe]; exact Or.inr h
  have hS : va_S A s.heap s.heap [] := va_S.rf
  have hP : va_P (dC, dI) vwCl [(h0, .inr (0, [.ref h1, .ref h2, .ref h3, .ref h4, .int ex, .int ch])), (h1, .inl (cI, 200, .inl la)), (h2, .inl (cI, 200, .inl fi)), (h3, .inl (cI, 200, .inl si)), (h4, .inl (cI, 24, .inl no)), (h5, .inl (cB, n, .inl g0))] s.heap := hP
  have hl := lv_entry ([.ref h0, .ref h5]) (n := 4) (Nat.le_of_ble_eq_true rfl)
  rw [lg_entry_eq]
  generalize (lg_sl ([.ref h0, .ref h5]) ++ List.replicate (4 - (lg_sl ([.ref h0, .ref h5])).length) Slot.unset).toArray = ls at hl ⊢
  have hl : lv_has ls 4 [(0, .ref h0), (1, .ref h5)] := hl
  have C0 : ey_Cx p s m [.ref h0, .ref h5].toArray meth c b_M_store 4 R_M ew_T none A := ⟨hx, hb, hml, hown, hts, hr, hlocks, hA⟩
  refine lv_aload_n hx hb d_M_store_0 rfl (lv_at hl 1 rfl) ?_
  refine lv_iconst (v := 0) hx hb d_M_store_1 (by decide) ?_
  refine lv_aload_n hx hb d_M_store_2 rfl (lv_at hl 0 rfl) ?_
  refine va_get (D := (dC, dI)) (ci := 0) (v := .int ch) (C := R_M) (T := T_M) (N := 6) hx hb hts in_M hown hK hP 0 rfl rfl 5 (by decide) (hts _ ew_93) (fun _ h9 => h9) rfl d_M_store_3 ?_
  refine ey_Sv (Wc := [(h5, .inl (cB, n, .inl g0))]) (wr := [(h0, .inr (0, [.ref h1, .ref h2, .ref h3, .ref h4, .int ex, .int ch])), (h1, .inl (cI, 200, .inl la)), (h2, .inl (cI, 200, .inl fi)), (h3, .inl (cI, 200, .inl si)), (h4, .inl (cI, 24, .inl no))]) (As := [.ref h5, .int 0, .int ch]) (rest := []) ⟨hx, hb, hml, hown, hts⟩ (c_mf_si l dC dI cI cB cJ cZ h5 n g0 0 ch hn hn4) (va_cwS 3 hts (ew_S ew_361 ew_362 ew_17 g_M_storeInt) rfl rfl rfl (by decide +kernel) ⟨Nat.le_of_ble_eq_true rfl, Nat.le_of_ble_eq_true rfl⟩) hK hG hP hD hS hA [5] [0, 1, 2, 3, 4] rfl rfl (by decide) (by decide) (by decide) rfl hl.1 rfl (Nat.le_of_ble_eq_true rfl) d_M_store_6 ⟨Nat.le_of_ble_eq_true rfl, Nat.le_of_ble_eq_true rfl⟩ (fun u_2 H locs e_3 hP hD hS => ?_)
  have hP : va_P (dC, dI) vwCl [(h0, .inr (0, [.ref h1, .ref h2, .ref h3, .ref h4, .int ex, .int ch])), (h1, .inl (cI, 200, .inl la)), (h2, .inl (cI, 200, .inl fi)), (h3, .inl (cI, 200, .inl si)), (h4, .inl (cI, 24, .inl no)), (h5, .inl (cB, n, .inl u_2))] H := hP
  have hD : va_D A [(h0, .inr (0, [.ref h1, .ref h2, .ref h3, .ref h4, .int ex, .int ch])), (h1, .inl (cI, 200, .inl la)), (h2, .inl (cI, 200, .inl fi)), (h3, .inl (cI, 200, .inl si)), (h4, .inl (cI, 24, .inl no)), (h5, .inl (cB, n, .inl u_2))] := hD
  subst e_3
  refine lv_aload_n hx hb d_M_store_9 rfl (lv_at hl 1 rfl) ?_
  refine lv_iconst (v := 4) hx hb d_M_store_10 (by decide) ?_
  refine lv_aload_n hx hb d_M_store_11 rfl (lv_at hl 0 rfl) ?_
  refine va_get (D := (dC, dI)) (ci := 0) (v := .int ex) (C := R_M) (T := T_M) (N := 6) hx hb hts in_M hown hK hP 0 rfl rfl 4 (by decide) (hts _ ew_91) (fun _ h9 => h9) rfl d_M_store_12 ?_
  refine ey_Sv (Wc := [(h5, .inl (cB, n, .inl (ep_si n g0 0 ch)))]) (wr := [(h0, .inr (0, [.ref h1, .ref h2, .ref h3, .ref h4, .int ex, .int ch])), (h1, .inl (cI, 200, .inl la)), (h2, .inl (cI, 200, .inl fi)), (h3, .inl (cI, 200, .inl si)), (h4, .inl (cI, 24, .inl no))]) (As := [.ref h5, .int 4, .int ex]) (rest := []) ⟨hx, hb, hml, hown, hts⟩ (c_mf_si l dC dI cI cB cJ cZ h5 n (ep_si n g0 0 ch) 4 ex hn hn4) (va_cwS 3 hts (ew_S ew_361 ew_362 ew_17 g_M_storeInt) rfl rfl rfl (by decide +kernel) ⟨Nat.le_of_ble_eq_true rfl, Nat.le_of_ble_eq_true rfl⟩) hK hG hP hD hS hA [5] [0, 1, 2, 3, 4] rfl rfl (by decide) (by decide) (by decide) rfl hl.1 rfl (Nat.le_of_ble_eq_true rfl) d_M_store_15 ⟨Nat.le_of_ble_eq_true rfl, Nat.le_of_ble_eq_true rfl⟩ (fun u_5 H locs e_6 hP hD hS => ?_)
  have hP : va_P (dC, dI) vwCl [(h0, .inr (0, [.ref h1, .ref h2, .ref h3, .ref h4, .int ex, .int ch])), (h1, .inl (cI, 200, .inl la)), (h2, .inl (cI, 200, .inl fi)), (h3, .inl (cI, 200, .inl si)), (h4, .inl (cI, 24, .inl no)), (h5, .inl (cB, n, .inl u_5))] H := hP
  have hD : va_D A [(h0, .inr (0, [.ref h1, .ref h2, .ref h3, .ref h4, .int ex, .int ch])), (h1, .inl (cI, 200, .inl la)), (h2, .inl (cI, 200, .inl fi)), (h3, .inl (cI, 200, .inl si)), (h4, .inl (cI, 24, .inl no)), (h5, .inl (cB, n, .inl u_5))] := hD
  subst e_6
  refine lv_iconst (v := nI 0) hx hb d_M_store_18 (by decide) ?_
  refine lv_istore_n (lv' := [(2, .int (nI 0)), (0, .ref h0), (1, .ref h5)]) hx hb d_M_store_19 rfl hl (by decide) rfl (fun ls hl => ?_)
  exact c_mf_store_N (h0 := h0) (h1 := h1) (h2 := h2) (h3 := h3) (h4 := h4) (ex := ex) (ch := ch) (la := la) (fi := fi) (si := si) (no := no) (h5 := h5) (n := n) (g0 := g0) hn hn4 hK hG C0 25 0 (ep_si n (ep_si n g0 0 ch) 4 ex) rfl (by omega) rfl _ _ hP hD hS ls (lv_sub hl [1, 2, 0] rfl)
end
section
set_option maxHeartbeats 4000000 in
set_option maxRecDepth 100000 in
theorem c_mf_load_R {p : Program} {l : Launch} {e : Env} {s : State} {m : MethodId} {args : Array Value} {below : List Frame} {meth : Method} {c : Code} {dC : Nat → ClassId} {dI : Nat → Nat → Nat} {cI cB cJ cZ : ClassId} {A : Nat → Prop} {h0 h1 h2 h3 h4 : Nat} {ex ch : Int32} {la fi si no : ep_F} {k0 k1 : Nat} {dn wr pw : Int32} {n : Nat} {f : ep_F} {bl : Int32} (hn : n < 2 ^ 31) (cnt : Int32) (hcnt : cnt = if ep_readInt n f (bl * 4096 + 4) < 200 then ep_readInt n f (bl * 4096 + 4) else 200) (g : ep_F) (hK : va_K (dC, dI) vwCl (ey_kt cI cB cJ cZ) s) (hG : ex_G s) (C0 : ey_Cx p s m args meth c b_M_load 7 R_M ew_T none A) (hg9 : g = ep_ln n f (bl * 4096) 25 0 (ep_fill 24 0 no)) :
    ∀ (fuel : Nat) (i : Nat) (q : ep_R) (hi : i + fuel = 201) (hin : i ≤ 200) (hu : ep_lr n f (bl * 4096) cnt fuel i q = ep_lr n f (bl * 4096) cnt 201 0 ((la, fi, si, 0) : ep_R)), ∀ (H : Heap) (locs : List Loc), va_P (dC, dI) vwCl [(h0, .inr (0, [.ref h1, .ref h2, .ref h3, .ref h4, .int q.2.2.2, .int (ep_readInt n f (bl * 4096 + 0))])), (h1, .inl (cI, 200, .inl q.1)), (h2, .inl (cI, 200, .inl q.2.1)), (h3, .inl (cI, 200, .inl q.2.2.1)), (h4, .inl (cI, 24, .inl g)), (k0, .inr (1, [.ref k1, .int dn, .int wr, .int pw])), (k1, .inl (cB, n, .inl f))] H → va_D A [(h0, .inr (0, [.ref h1, .ref h2, .ref h3, .ref h4, .int q.2.2.2, .int (ep_readInt n f (bl * 4096 + 0))])), (h1, .inl (cI, 200, .inl q.1)), (h2, .inl (cI, 200, .inl q.2.1)), (h3, .inl (cI, 200, .inl q.2.2.1)), (h4, .inl (cI, 24, .inl g)), (k0, .inr (1, [.ref k1, .int dn, .int wr, .int pw])), (k1, .inl (cB, n, .inl f))] → va_S A s.heap H locs → ∀ (ls : Array Slot), lv_has ls 7 [(0, .ref h0), (1, .ref k0), (3, .int (bl * 4096)), (4, .int cnt), (5, .int (nI i))] → W p l e { frames := 2, cells := 0, slots := 0, locals := 45 } s m args below meth c H locs 0 0 (MQ below (va_Qv (fun (u : ep_M) => u = ep_load n f bl ((la, fi, si, ex), no, ch)) (fun u t => ey_Post (dC, dI) vwCl A ((fun (u : ep_M) => [(h0, .inr (0, [.ref h1, .ref h2, .ref h3, .ref h4, .int u.1.2.2.2, .int u.2.2])), (h1, .inl (cI, 200, .inl u.1.1)), (h2, .inl (cI, 200, .inl u.1.2.1)), (h3, .inl (cI, 200, .inl u.1.2.2.1)), (h4, .inl (cI, 24, .inl u.2.1)), (k0, .inr (1, [.ref k1, .int dn, .int wr, .int pw])), (k1, .inl (cB, n, .inl f))]) u) t) A) args s 0 0 A) (F0 m 75 ls []) := by
  obtain ⟨hx, hb, hml, hown, hts, hr, hlocks, hA⟩ := id C0
  intro fuel
  induction fuel with
  | zero =>
    intro i q hi hin hu H locs hP hD hS ls hl
    exact absurd hi (by omega)
  | succ fuel ih =>
    intro i q hi hin hu H locs hP hD hS ls hl
    refine lv_iload hx hb d_M_load_75 (lv_at hl 4 rfl) ?_
    refine lv_iload hx hb d_M_load_77 (lv_at hl 3 rfl) ?_
    refine lv_icmp_ge (tgt := 128) hx hb d_M_load_79 (by decide) (fun c_79 => ?_) (fun c_79 => ?_)
    · exact ey_vret (W1 := fun (u : ep_M) => [(h0, .inr (0, [.ref h1, .ref h2, .ref h3, .ref h4, .int u.1.2.2.2, .int u.2.2])), (h1, .inl (cI, 200, .inl u.1.1)), (h2, .inl (cI, 200, .inl u.1.2.1)), (h3, .inl (cI, 200, .inl u.1.2.2.1)), (h4, .inl (cI, 24, .inl u.2.1)), (k0, .inr (1, [.ref k1, .int dn, .int wr, .int pw])), (k1, .inl (cB, n, .inl f))]) hx hb hr hlocks hP hD hS (q, g, ep_readInt n f (bl * 4096 + 0)) [0, 1, 2, 3, 4, 5, 6] rfl (by decide) (by rw [ep_load, ← hcnt, ← hu, hg9]; simp only [ep_lr, ↓reduceIte, c_79]) d_M_load_128 (Nat.le_of_ble_eq_true rfl) (Nat.le_of_ble_eq_true rfl)
    · have hlt : i < 200 := ey_ltc (by omega) hcnt c_79
      refine lv_iload_n hx hb d_M_load_82 rfl (lv_at hl 2 rfl) ?_
      refine lv_bipush (v := 104) hx hb d_M_load_83 (by decide) ?_
      refine lv_iadd hx hb d_M_load_85 ?_
      refine lv_bipush (v := 12) hx hb d_M_load_86 (by decide) ?_
      refine lv_iload hx hb d_M_load_88 (lv_at hl 4 rfl) ?_
      refine lv_imul hx hb d_M_load_90 ?_
      refine lv_iadd hx hb d_M_load_91 ?_
      refine lv_istore (lv' := [(6, .int (((bl * 4096) + 104) + (12 * (nI i)))), (0, .ref h0), (1, .ref k0), (3, .int (bl * 4096)), (4, .int cnt), (5, .int (nI i))]) hx hb d_M_load_92 hl (by decide) rfl (fun ls hl => ?_)
      refine lv_aload_n hx hb d_M_load_94 rfl (lv_at hl 1 rfl) ?_
      refine lv_aload_n hx hb d_M_load_95 rfl (lv_at hl 2 rfl) ?_
      refine lv_iload hx hb d_M_load_96 (lv_at hl 0 rfl) ?_
      refine ey_Vi (Wc := [(k0, .inr (1, [.ref k1, .int dn, .int wr, .int pw])), (k1, .inl (cB, n, .inl f))]) (wr := [(h0, .inr (0, [.ref h1, .ref h2, .ref h3, .ref h4, .int q.2.2.2, .int (ep_readInt n f (bl * 4096 + 0))])), (h1, .inl (cI, 200, .inl q.1)), (h2, .inl (cI, 200, .inl q.2.1)), (h3, .inl (cI, 200, .inl q.2.2.1)), (h4, .inl (cI, 24, .inl g))]) (As := [.int (((bl * 4096) + 104) + (12 * (nI i)))]) (rest := [.ref h0]) ⟨hx, hb, hml, hown, hts⟩ (c_pl_readInt l dC dI cI cB cJ cZ k0 k1 dn wr pw n f (((bl * 4096) + 104) + (12 * (nI i))) hn) (cwV 1 hts (ew_V ew_150 ew_151 ew_152 ew_15 g_P_readInt) rfl rfl rfl (by decide +kernel) ⟨Nat.le_of_ble_eq_true rfl, Nat.le_of_ble_eq_true rfl⟩) hK hG hP hD hS hA [5, 6] [0, 1, 2, 3, 4] rfl rfl (by decide) (by decide) (by decide) (ci := 1) (q0 := 0) rfl rfl rfl hl.1 rfl (Nat.le_of_ble_eq_true rfl) d_M_load_98 ⟨Nat.le_of_ble_eq_true rfl, Nat.le_of_ble_eq_true rfl⟩ (fun r_1 u_2 H locs e_3 hP hD hS => ?_)
      have hP : va_P (dC, dI) vwCl [(h0, .inr (0, [.ref h1, .ref h2, .ref h3, .ref h4, .int q.2.2.2, .int (ep_readInt n f (bl * 4096 + 0))])), (h1, .inl (cI, 200, .inl q.1)), (h2, .inl (cI, 200, .inl q.2.1)), (h3, .inl (cI, 200, .inl q.2.2.1)), (h4, .inl (cI, 24, .inl g)), (k0, .inr (1, [.ref k1, .int dn, .int wr, .int pw])), (k1, .inl (cB, n, .inl f))] H := hP
      have hD : va_D A [(h0, .inr (0, [.ref h1, .ref h2, .ref h3, .ref h4, .int q.2.2.2, .int (ep_readInt n f (bl * 4096 + 0))])), (h1, .inl (cI, 200, .inl q.1)), (h2, .inl (cI, 200, .inl q.2.1)), (h3, .inl (cI, 200, .inl q.2.2.1)), (h4, .inl (cI, 24, .inl g)), (k0, .inr (1, [.ref k1, .int dn, .int wr, .int pw])), (k1, .inl (cB, n, .inl f))] := hD
      subst e_3
      refine lv_aload_n hx hb d_M_load_101 rfl (lv_at hl 2 rfl) ?_
      refine lv_iload hx hb d_M_load_102 (lv_at hl 0 rfl) ?_
      refine lv_iconst (v := 4) hx hb d_M_load_104 (by decide) ?_
      refine lv_iadd hx hb d_M_load_105 ?_
      refine ey_Vi (Wc := [(k0, .inr (1, [.ref k1, .int dn, .int wr, .int pw])), (k1, .inl (cB, n, .inl f))]) (wr := [(h0, .inr (0, [.ref h1, .ref h2, .ref h3, .ref h4, .int q.2.2.2, .int (ep_readInt n f (bl * 4096 + 0))])), (h1, .inl (cI, 200, .inl q.1)), (h2, .inl (cI, 200, .inl q.2.1)), (h3, .inl (cI, 200, .inl q.2.2.1)), (h4, .inl (cI, 24, .inl g))]) (As := [.int ((((bl * 4096) + 104) + (12 * (nI i))) + 4)]) (rest := [.int (ep_readInt n f (((bl * 4096) + 104) + (12 * (nI i)))), .ref h0]) ⟨hx, hb, hml, hown, hts⟩ (c_pl_readInt l dC dI cI cB cJ cZ k0 k1 dn wr pw n f ((((bl * 4096) + 104) + (12 * (nI i))) + 4) hn) (cwV 1 hts (ew_V ew_150 ew_151 ew_152 ew_15 g_P_readInt) rfl rfl rfl (by decide +kernel) ⟨Nat.le_of_ble_eq_true rfl, Nat.le_of_ble_eq_true rfl⟩) hK hG hP hD hS hA [5, 6] [0, 1, 2, 3, 4] rfl rfl (by decide) (by decide) (by decide) (ci := 1) (q0 := 0) rfl rfl rfl hl.1 rfl (Nat.le_of_ble_eq_true rfl) d_M_load_106 ⟨Nat.le_of_ble_eq_true rfl, Nat.le_of_ble_eq_true rfl⟩ (fun r_4 u_5 H locs e_6 hP hD hS => ?_)
      have hP : va_P (dC, dI) vwCl [(h0, .inr (0, [.ref h1, .ref h2, .ref h3, .ref h4, .int q.2.2.2, .int (ep_readInt n f (bl * 4096 + 0))])), (h1, .inl (cI, 200, .inl q.1)), (h2, .inl (cI, 200, .inl q.2.1)), (h3, .inl (cI, 200, .inl q.2.2.1)), (h4, .inl (cI, 24, .inl g)), (k0, .inr (1, [.ref k1, .int dn, .int wr, .int pw])), (k1, .inl (cB, n, .inl f))] H := hP
      have hD : va_D A [(h0, .inr (0, [.ref h1, .ref h2, .ref h3, .ref h4, .int q.2.2.2, .int (ep_readInt n f (bl * 4096 + 0))])), (h1, .inl (cI, 200, .inl q.1)), (h2, .inl (cI, 200, .inl q.2.1)), (h3, .inl (cI, 200, .inl q.2.2.1)), (h4, .inl (cI, 24, .inl g)), (k0, .inr (1, [.ref k1, .int dn, .int wr, .int pw])), (k1, .inl (cB, n, .inl f))] := hD
      subst e_6
      refine lv_aload_n hx hb d_M_load_109 rfl (lv_at hl 2 rfl) ?_
      refine lv_iload hx hb d_M_load_110 (lv_at hl 0 rfl) ?_
      refine lv_bipush (v := 8) hx hb d_M_load_112 (by decide) ?_
      refine lv_iadd hx hb d_M_load_114 ?_
      refine ey_Vi (Wc := [(k0, .inr (1, [.ref k1, .int dn, .int wr, .int pw])), (k1, .inl (cB, n, .inl f))]) (wr := [(h0, .inr (0, [.ref h1, .ref h2, .ref h3, .ref h4, .int q.2.2.2, .int (ep_readInt n f (bl * 4096 + 0))])), (h1, .inl (cI, 200, .inl q.1)), (h2, .inl (cI, 200, .inl q.2.1)), (h3, .inl (cI, 200, .inl q.2.2.1)), (h4, .inl (cI, 24, .inl g))]) (As := [.int ((((bl * 4096) + 104) + (12 * (nI i))) + 8)]) (rest := [.int (ep_readInt n f ((((bl * 4096) + 104) + (12 * (nI i))) + 4)), .int (ep_readInt n f (((bl * 4096) + 104) + (12 * (nI i)))), .ref h0]) ⟨hx, hb, hml, hown, hts⟩ (c_pl_readInt l dC dI cI cB cJ cZ k0 k1 dn wr pw n f ((((bl * 4096) + 104) + (12 * (nI i))) + 8) hn) (cwV 1 hts (ew_V ew_150 ew_151 ew_152 ew_15 g_P_readInt) rfl rfl rfl (by decide +kernel) ⟨Nat.le_of_ble_eq_true rfl, Nat.le_of_ble_eq_true rfl⟩) hK hG hP hD hS hA [5, 6] [0, 1, 2, 3, 4] rfl rfl (by decide) (by decide) (by decide) (ci := 1) (q0 := 0) rfl rfl rfl hl.1 rfl (Nat.le_of_ble_eq_true rfl) d_M_load_115 ⟨Nat.le_of_ble_eq_true rfl, Nat.le_of_ble_eq_true rfl⟩ (fun r_7 u_8 H locs e_9 hP hD hS => ?_)
      have hP : va_P (dC, dI) vwCl [(h0, .inr (0, [.ref h1, .ref h2, .ref h3, .ref h4, .int q.2.2.2, .int (ep_readInt n f (bl * 4096 + 0))])), (h1, .inl (cI, 200, .inl q.1)), (h2, .inl (cI, 200, .inl q.2.1)), (h3, .inl (cI, 200, .inl q.2.2.1)), (h4, .inl (cI, 24, .inl g)), (k0, .inr (1, [.ref k1, .int dn, .int wr, .int pw])), (k1, .inl (cB, n, .inl f))] H := hP
      have hD : va_D A [(h0, .inr (0, [.ref h1, .ref h2, .ref h3, .ref h4, .int q.2.2.2, .int (ep_readInt n f (bl * 4096 + 0))])), (h1, .inl (cI, 200, .inl q.1)), (h2, .inl (cI, 200, .inl q.2.1)), (h3, .inl (cI, 200, .inl q.2.2.1)), (h4, .inl (cI, 24, .inl g)), (k0, .inr (1, [.ref k1, .int dn, .int wr, .int pw])), (k1, .inl (cB, n, .inl f))] := hD
      subst e_9
      refine ey_Vi (Wc := [(h0, .inr (0, [.ref h1, .ref h2, .ref h3, .ref h4, .int q.2.2.2, .int (ep_readInt n f (bl * 4096 + 0))])), (h1, .inl (cI, 200, .inl q.1)), (h2, .inl (cI, 200, .inl q.2.1)), (h3, .inl (cI, 200, .inl q.2.2.1))]) (wr := [(h4, .inl (cI, 24, .inl g)), (k0, .inr (1, [.ref k1, .int dn, .int wr, .int pw])), (k1, .inl (cB, n, .inl f))]) (As := [.int (ep_readInt n f (((bl * 4096) + 104) + (12 * (nI i)))), .int (ep_readInt n f ((((bl * 4096) + 104) + (12 * (nI i))) + 4)), .int (ep_readInt n f ((((bl * 4096) + 104) + (12 * (nI i))) + 8))]) (rest := []) ⟨hx, hb, hml, hown, hts⟩ (c_mf_add l dC dI cI cB cJ cZ h0 h1 h2 h3 h4 q.2.2.2 (ep_readInt n f (bl * 4096 + 0)) q.1 q.2.1 q.2.2.1 (ep_readInt n f (((bl * 4096) + 104) + (12 * (nI i)))) (ep_readInt n f ((((bl * 4096) + 104) + (12 * (nI i))) + 4)) (ep_readInt n f ((((bl * 4096) + 104) + (12 * (nI i))) + 8))) (cwV 3 hts (ew_V ew_159 ew_160 ew_161 ew_17 g_M_add) rfl rfl rfl (by decide +kernel) ⟨Nat.le_of_ble_eq_true rfl, Nat.le_of_ble_eq_true rfl⟩) hK hG hP hD hS hA [0, 1, 2, 3] [4, 5, 6] rfl rfl (by decide) (by decide) (by decide) (ci := 0) (q0 := 0) rfl rfl rfl hl.1 rfl (Nat.le_of_ble_eq_true rfl) d_M_load_118 ⟨Nat.le_of_ble_eq_true rfl, Nat.le_of_ble_eq_true rfl⟩ (fun r_10 u_11 H locs e_12 hP hD hS => ?_)
      have hP : va_P (dC, dI) vwCl [(h4, .inl (cI, 24, .inl g)), (k0, .inr (1, [.ref k1, .int dn, .int wr, .int pw])), (k1, .inl (cB, n, .inl f)), (h0, .inr (0, [.ref h1, .ref h2, .ref h3, .ref h4, .int u_11.2.2.2, .int (ep_readInt n f (bl * 4096 + 0))])), (h1, .inl (cI, 200, .inl u_11.1)), (h2, .inl (cI, 200, .inl u_11.2.1)), (h3, .inl (cI, 200, .inl u_11.2.2.1))] H := hP
      have hD : va_D A [(h4, .inl (cI, 24, .inl g)), (k0, .inr (1, [.ref k1, .int dn, .int wr, .int pw])), (k1, .inl (cB, n, .inl f)), (h0, .inr (0, [.ref h1, .ref h2, .ref h3, .ref h4, .int u_11.2.2.2, .int (ep_readInt n f (bl * 4096 + 0))])), (h1, .inl (cI, 200, .inl u_11.1)), (h2, .inl (cI, 200, .inl u_11.2.1)), (h3, .inl (cI, 200, .inl u_11.2.2.1))] := hD
      obtain ⟨rfl, rfl⟩ : r_10 = (ep_add (q.1, q.2.1, q.2.2.1, q.2.2.2) (ep_readInt n f (((bl * 4096) + 104) + (12 * (nI i)))) (ep_readInt n f ((((bl * 4096) + 104) + (12 * (nI i))) + 4)) (ep_readInt n f ((((bl * 4096) + 104) + (12 * (nI i))) + 8))).1 ∧ u_11 = (ep_add (q.1, q.2.1, q.2.2.1, q.2.2.2) (ep_readInt n f (((bl * 4096) + 104) + (12 * (nI i)))) (ep_readInt n f ((((bl * 4096) + 104) + (12 * (nI i))) + 4)) (ep_readInt n f ((((bl * 4096) + 104) + (12 * (nI i))) + 8))).2 := ⟨congrArg Prod.fst e_12, congrArg Prod.snd e_12⟩
      refine lv_pop hx hb d_M_load_121 rfl ?_
      refine lv_iinc (v := nI (i + 1)) (lv' := [(5, .int (nI (i + 1))), (6, .int (((bl * 4096) + 104) + (12 * (nI i)))), (0, .ref h0), (1, .ref k0), (3, .int (bl * 4096)), (4, .int cnt)]) hx hb d_M_load_122 hl (k := 5) rfl (nI_1 i) (by decide) rfl (fun ls hl => ?_)
      refine lv_goto (tgt := 75) hx hb d_M_load_125 (by decide) ?_
      exact ih (i + 1) (ep_add q (ep_readInt n f (bl * 4096 + 104 + 12 * nI i)) (ep_readInt n f (bl * 4096 + 104 + 12 * nI i + 4)) (ep_readInt n f (bl * 4096 + 104 + 12 * nI i + 8))).2 (by omega) (by omega) (by rw [← hu]; simp only [ep_lr, ↓reduceIte, c_79]) _ _ (ey_P (is := [3, 4, 5, 6, 0, 1, 2]) hP rfl) (hD.sub [3, 4, 5, 6, 0, 1, 2] (by decide) rfl) hS ls (lv_sub hl [2, 3, 4, 5, 0] rfl)
set_option maxHeartbeats 4000000 in
set_option maxRecDepth 100000 in
theorem c_mf_load_N {p : Program} {l : Launch} {e : Env} {s : State} {m : MethodId} {args : Array Value} {below : List Frame} {meth : Method} {c : Code} {dC : Nat → ClassId} {dI : Nat → Nat → Nat} {cI cB cJ cZ : ClassId} {A : Nat → Prop} {h0 h1 h2 h3 h4 : Nat} {ex ch : Int32} {la fi si no : ep_F} {k0 k1 : Nat} {dn wr pw : Int32} {n : Nat} {f : ep_F} {bl : Int32} (hn : n < 2 ^ 31) (hK : va_K (dC, dI) vwCl (ey_kt cI cB cJ cZ) s) (hG : ex_G s) (C0 : ey_Cx p s m args meth c b_M_load 7 R_M ew_T none A)  :
    ∀ (fuel : Nat) (i : Nat) (g : ep_F) (hi : i + fuel = 25) (hin : i ≤ 24) (hu : ep_ln n f (bl * 4096) fuel i g = ep_ln n f (bl * 4096) 25 0 (ep_fill 24 0 no)), ∀ (H : Heap) (locs : List Loc), va_P (dC, dI) vwCl [(h0, .inr (0, [.ref h1, .ref h2, .ref h3, .ref h4, .int (((la, fi, si, 0) : ep_R).2.2.2), .int (ep_readInt n f (bl * 4096 + 0))])), (h1, .inl (cI, 200, .inl (((la, fi, si, 0) : ep_R).1))), (h2, .inl (cI, 200, .inl (((la, fi, si, 0) : ep_R).2.1))), (h3, .inl (cI, 200, .inl (((la, fi, si, 0) : ep_R).2.2.1))), (h4, .inl (cI, 24, .inl g)), (k0, .inr (1, [.ref k1, .int dn, .int wr, .int pw])), (k1, .inl (cB, n, .inl f))] H → va_D A [(h0, .inr (0, [.ref h1, .ref h2, .ref h3, .ref h4, .int (((la, fi, si, 0) : ep_R).2.2.2), .int (ep_readInt n f (bl * 4096 + 0))])), (h1, .inl (cI, 200, .inl (((la, fi, si, 0) : ep_R).1))), (h2, .inl (cI, 200, .inl (((la, fi, si, 0) : ep_R).2.1))), (h3, .inl (cI, 200, .inl (((la, fi, si, 0) : ep_R).2.2.1))), (h4, .inl (cI, 24, .inl g)), (k0, .inr (1, [.ref k1, .int dn, .int wr, .int pw])), (k1, .inl (cB, n, .inl f))] → va_S A s.heap H locs → ∀ (ls : Array Slot), lv_has ls 7 [(0, .ref h0), (1, .ref k0), (3, .int (bl * 4096)), (4, .int (nI i))] → W p l e { frames := 2, cells := 0, slots := 0, locals := 45 } s m args below meth c H locs 0 0 (MQ below (va_Qv (fun (u : ep_M) => u = ep_load n f bl ((la, fi, si, ex), no, ch)) (fun u t => ey_Post (dC, dI) vwCl A ((fun (u : ep_M) => [(h0, .inr (0, [.ref h1, .ref h2, .ref h3, .ref h4, .int u.1.2.2.2, .int u.2.2])), (h1, .inl (cI, 200, .inl u.1.1)), (h2, .inl (cI, 200, .inl u.1.2.1)), (h3, .inl (cI, 200, .inl u.1.2.2.1)), (h4, .inl (cI, 24, .inl u.2.1)), (k0, .inr (1, [.ref k1, .int dn, .int wr, .int pw])), (k1, .inl (cB, n, .inl f))]) u) t) A) args s 0 0 A) (F0 m 24 ls []) := by
  obtain ⟨hx, hb, hml, hown, hts, hr, hlocks, hA⟩ := id C0
  intro fuel
  induction fuel with
  | zero =>
    intro i g hi hin hu H locs hP hD hS ls hl
    exact absurd hi (by omega)
  | succ fuel ih =>
    intro i g hi hin hu H locs hP hD hS ls hl
    refine lv_iload hx hb d_M_load_24 (lv_at hl 3 rfl) ?_
    refine lv_bipush (v := 24) hx hb d_M_load_26 (by decide) ?_
    refine lv_icmp_ge (tgt := 57) hx hb d_M_load_28 (by decide) (fun c_28 => ?_) (fun c_28 => ?_)
    · refine lv_sipush (v := 200) hx hb d_M_load_57 (by decide) ?_
      refine lv_aload_n hx hb d_M_load_60 rfl (lv_at hl 1 rfl) ?_
      refine lv_iload_n hx hb d_M_load_61 rfl (lv_at hl 2 rfl) ?_
      refine lv_iconst (v := 4) hx hb d_M_load_62 (by decide) ?_
      refine lv_iadd hx hb d_M_load_63 ?_
      refine ey_Vi (Wc := [(k0, .inr (1, [.ref k1, .int dn, .int wr, .int pw])), (k1, .inl (cB, n, .inl f))]) (wr := [(h0, .inr (0, [.ref h1, .ref h2, .ref h3, .ref h4, .int (((la, fi, si, 0) : ep_R).2.2.2), .int (ep_readInt n f (bl * 4096 + 0))])), (h1, .inl (cI, 200, .inl (((la, fi, si, 0) : ep_R).1))), (h2, .inl (cI, 200, .inl (((la, fi, si, 0) : ep_R).2.1))), (h3, .inl (cI, 200, .inl (((la, fi, si, 0) : ep_R).2.2.1))), (h4, .inl (cI, 24, .inl g))]) (As := [.int ((bl * 4096) + 4)]) (rest := [.int 200]) ⟨hx, hb, hml, hown, hts⟩ (c_pl_readInt l dC dI cI cB cJ cZ k0 k1 dn wr pw n f ((bl * 4096) + 4) hn) (cwV 1 hts (ew_V ew_150 ew_151 ew_152 ew_15 g_P_readInt) rfl rfl rfl (by decide +kernel) ⟨Nat.le_of_ble_eq_true rfl, Nat.le_of_ble_eq_true rfl⟩) hK hG hP hD hS hA [5, 6] [0, 1, 2, 3, 4] rfl rfl (by decide) (by decide) (by decide) (ci := 1) (q0 := 0) rfl rfl rfl hl.1 rfl (Nat.le_of_ble_eq_true rfl) d_M_load_64 ⟨Nat.le_of_ble_eq_true rfl, Nat.le_of_ble_eq_true rfl⟩ (fun r_1 u_2 H locs e_3 hP hD hS => ?_)
      have hP : va_P (dC, dI) vwCl [(h0, .inr (0, [.ref h1, .ref h2, .ref h3, .ref h4, .int (((la, fi, si, 0) : ep_R).2.2.2), .int (ep_readInt n f (bl * 4096 + 0))])), (h1, .inl (cI, 200, .inl (((la, fi, si, 0) : ep_R).1))), (h2, .inl (cI, 200, .inl (((la, fi, si, 0) : ep_R).2.1))), (h3, .inl (cI, 200, .inl (((la, fi, si, 0) : ep_R).2.2.1))), (h4, .inl (cI, 24, .inl g)), (k0, .inr (1, [.ref k1, .int dn, .int wr, .int pw])), (k1, .inl (cB, n, .inl f))] H := hP
      have hD : va_D A [(h0, .inr (0, [.ref h1, .ref h2, .ref h3, .ref h4, .int (((la, fi, si, 0) : ep_R).2.2.2), .int (ep_readInt n f (bl * 4096 + 0))])), (h1, .inl (cI, 200, .inl (((la, fi, si, 0) : ep_R).1))), (h2, .inl (cI, 200, .inl (((la, fi, si, 0) : ep_R).2.1))), (h3, .inl (cI, 200, .inl (((la, fi, si, 0) : ep_R).2.2.1))), (h4, .inl (cI, 24, .inl g)), (k0, .inr (1, [.ref k1, .int dn, .int wr, .int pw])), (k1, .inl (cB, n, .inl f))] := hD
      subst e_3
      refine va_mmin hx hb (by rw [hml]; exact hl.1.symm) hown (hts _ ew_158) (hts _ ew_35) (hts _ ew_14) (hts _ ew_36) (Nat.le_of_ble_eq_true rfl) (Nat.le_of_ble_eq_true rfl) (Nat.le_of_ble_eq_true rfl) (Nat.le_of_ble_eq_true rfl) d_M_load_67 ?_
      refine lv_istore (lv' := [(4, .int (if (ep_readInt n f ((bl * 4096) + 4)) < 200 then (ep_readInt n f ((bl * 4096) + 4)) else 200 : Int32)), (0, .ref h0), (1, .ref k0), (3, .int (bl * 4096))]) hx hb d_M_load_70 hl (by decide) rfl (fun ls hl => ?_)
      refine lv_iconst (v := nI 0) hx hb d_M_load_72 (by decide) ?_
      refine lv_istore (lv' := [(5, .int (nI 0)), (4, .int (if (ep_readInt n f ((bl * 4096) + 4)) < 200 then (ep_readInt n f ((bl * 4096) + 4)) else 200 : Int32)), (0, .ref h0), (1, .ref k0), (3, .int (bl * 4096))]) hx hb d_M_load_73 hl (by decide) rfl (fun ls hl => ?_)
      have eg : g = ep_ln n f (bl * 4096) 25 0 (ep_fill 24 0 no) := by rw [← hu]; simp only [ep_ln, ↓reduceIte, c_28]
      subst eg
      exact c_mf_load_R (h0 := h0) (h1 := h1) (h2 := h2) (h3 := h3) (h4 := h4) (ex := ex) (ch := ch) (la := la) (fi := fi) (si := si) (no := no) (k0 := k0) (k1 := k1) (dn := dn) (wr := wr) (pw := pw) (n := n) (f := f) (bl := bl) hn (if ep_readInt n f (bl * 4096 + 4) < 200 then ep_readInt n f (bl * 4096 + 4) else 200) rfl (ep_ln n f (bl * 4096) 25 0 (ep_fill 24 0 no)) hK hG C0 rfl 201 0 ((la, fi, si, 0) : ep_R) rfl (by omega) rfl _ _ hP hD hS ls (lv_sub hl [2, 3, 4, 1, 0] rfl)
    · have hlt : i < 24 := ey_lt24 (by omega) c_28
      refine lv_aload_n hx hb d_M_load_31 rfl (lv_at hl 0 rfl) ?_
      refine va_get (D := (dC, dI)) (ci := 0) (v := .ref h4) (C := R_M) (T := T_M) (N := 6) hx hb hts in_M hown hK hP 0 rfl rfl 3 (by decide) (hts _ ew_89) (fun _ h9 => h9) rfl d_M_load_32 ?_
      refine lv_iload hx hb d_M_load_35 (lv_at hl 3 rfl) ?_
      refine lv_aload_n hx hb d_M_load_37 rfl (lv_at hl 1 rfl) ?_
      refine lv_iload_n hx hb d_M_load_38 rfl (lv_at hl 2 rfl) ?_
      refine lv_bipush (v := 8) hx hb d_M_load_39 (by decide) ?_
      refine lv_iadd hx hb d_M_load_41 ?_
      refine lv_iconst (v := 4) hx hb d_M_load_42 (by decide) ?_
      refine lv_iload hx hb d_M_load_43 (lv_at hl 3 rfl) ?_
      refine lv_imul hx hb d_M_load_45 ?_
      refine lv_iadd hx hb d_M_load_46 ?_
      refine ey_Vi (Wc := [(k0, .inr (1, [.ref k1, .int dn, .int wr, .int pw])), (k1, .inl (cB, n, .inl f))]) (wr := [(h0, .inr (0, [.ref h1, .ref h2, .ref h3, .ref h4, .int (((la, fi, si, 0) : ep_R).2.2.2), .int (ep_readInt n f (bl * 4096 + 0))])), (h1, .inl (cI, 200, .inl (((la, fi, si, 0) : ep_R).1))), (h2, .inl (cI, 200, .inl (((la, fi, si, 0) : ep_R).2.1))), (h3, .inl (cI, 200, .inl (((la, fi, si, 0) : ep_R).2.2.1))), (h4, .inl (cI, 24, .inl g))]) (As := [.int (((bl * 4096) + 8) + (4 * (nI i)))]) (rest := [.int (nI i), .ref h4]) ⟨hx, hb, hml, hown, hts⟩ (c_pl_readInt l dC dI cI cB cJ cZ k0 k1 dn wr pw n f (((bl * 4096) + 8) + (4 * (nI i))) hn) (cwV 1 hts (ew_V ew_150 ew_151 ew_152 ew_15 g_P_readInt) rfl rfl rfl (by decide +kernel) ⟨Nat.le_of_ble_eq_true rfl, Nat.le_of_ble_eq_true rfl⟩) hK hG hP hD hS hA [5, 6] [0, 1, 2, 3, 4] rfl rfl (by decide) (by decide) (by decide) (ci := 1) (q0 := 0) rfl rfl rfl hl.1 rfl (Nat.le_of_ble_eq_true rfl) d_M_load_47 ⟨Nat.le_of_ble_eq_true rfl, Nat.le_of_ble_eq_true rfl⟩ (fun r_4 u_5 H locs e_6 hP hD hS => ?_)
      have hP : va_P (dC, dI) vwCl [(h0, .inr (0, [.ref h1, .ref h2, .ref h3, .ref h4, .int (((la, fi, si, 0) : ep_R).2.2.2), .int (ep_readInt n f (bl * 4096 + 0))])), (h1, .inl (cI, 200, .inl (((la, fi, si, 0) : ep_R).1))), (h2, .inl (cI, 200, .inl (((la, fi, si, 0) : ep_R).2.1))), (h3, .inl (cI, 200, .inl (((la, fi, si, 0) : ep_R).2.2.1))), (h4, .inl (cI, 24, .inl g)), (k0, .inr (1, [.ref k1, .int dn, .int wr, .int pw])), (k1, .inl (cB, n, .inl f))] H := hP
      have hD : va_D A [(h0, .inr (0, [.ref h1, .ref h2, .ref h3, .ref h4, .int (((la, fi, si, 0) : ep_R).2.2.2), .int (ep_readInt n f (bl * 4096 + 0))])), (h1, .inl (cI, 200, .inl (((la, fi, si, 0) : ep_R).1))), (h2, .inl (cI, 200, .inl (((la, fi, si, 0) : ep_R).2.1))), (h3, .inl (cI, 200, .inl (((la, fi, si, 0) : ep_R).2.2.1))), (h4, .inl (cI, 24, .inl g)), (k0, .inr (1, [.ref k1, .int dn, .int wr, .int pw])), (k1, .inl (cB, n, .inl f))] := hD
      subst e_6
      refine va_iast hx hb hK hP hD hS 4 0 rfl rfl (vp_in_nI hlt (by decide)) d_M_load_50 (fun H locs hP hD hS => ?_)
      have hP : va_P (dC, dI) vwCl [(h0, .inr (0, [.ref h1, .ref h2, .ref h3, .ref h4, .int (((la, fi, si, 0) : ep_R).2.2.2), .int (ep_readInt n f (bl * 4096 + 0))])), (h1, .inl (cI, 200, .inl (((la, fi, si, 0) : ep_R).1))), (h2, .inl (cI, 200, .inl (((la, fi, si, 0) : ep_R).2.1))), (h3, .inl (cI, 200, .inl (((la, fi, si, 0) : ep_R).2.2.1))), (h4, .inl (cI, 24, .inl (upd g (nI i).toNatClampNeg (ep_readInt n f (((bl * 4096) + 8) + (4 * (nI i))))))), (k0, .inr (1, [.ref k1, .int dn, .int wr, .int pw])), (k1, .inl (cB, n, .inl f))] H := hP
      have hD : va_D A [(h0, .inr (0, [.ref h1, .ref h2, .ref h3, .ref h4, .int (((la, fi, si, 0) : ep_R).2.2.2), .int (ep_readInt n f (bl * 4096 + 0))])), (h1, .inl (cI, 200, .inl (((la, fi, si, 0) : ep_R).1))), (h2, .inl (cI, 200, .inl (((la, fi, si, 0) : ep_R).2.1))), (h3, .inl (cI, 200, .inl (((la, fi, si, 0) : ep_R).2.2.1))), (h4, .inl (cI, 24, .inl (upd g (nI i).toNatClampNeg (ep_readInt n f (((bl * 4096) + 8) + (4 * (nI i))))))), (k0, .inr (1, [.ref k1, .int dn, .int wr, .int pw])), (k1, .inl (cB, n, .inl f))] := hD
      refine lv_iinc (v := nI (i + 1)) (lv' := [(4, .int (nI (i + 1))), (0, .ref h0), (1, .ref k0), (3, .int (bl * 4096))]) hx hb d_M_load_51 hl (k := 3) rfl (nI_1 i) (by decide) rfl (fun ls hl => ?_)
      refine lv_goto (tgt := 24) hx hb d_M_load_54 (by decide) ?_
      exact ih (i + 1) (upd g (nI i).toNatClampNeg (ep_readInt n f (bl * 4096 + 8 + 4 * nI i))) (by omega) (by omega) (by rw [← hu]; simp only [ep_ln, ↓reduceIte, c_28]) _ _ hP hD hS ls (lv_sub hl [1, 2, 3, 0] rfl)
set_option maxHeartbeats 4000000 in
set_option maxRecDepth 100000 in
theorem c_mf_load (l : Launch) (dC : Nat → ClassId) (dI : Nat → Nat → Nat) (cI cB cJ cZ : ClassId) (h0 h1 h2 h3 h4 : Nat) (ex ch : Int32) (la fi si no : ep_F) (k0 k1 : Nat) (dn wr pw : Int32) (n : Nat) (f : ep_F) (bl : Int32) (hn : n < 2 ^ 31) : ey_Mv l y_M_load w_M_load { frames := 2, cells := 0, slots := 0, locals := 45 } (dC, dI) vwCl (ey_kt cI cB cJ cZ) [.ref h0, .ref k0, .int bl] [(h0, .inr (0, [.ref h1, .ref h2, .ref h3, .ref h4, .int ex, .int ch])), (h1, .inl (cI, 200, .inl la)), (h2, .inl (cI, 200, .inl fi)), (h3, .inl (cI, 200, .inl si)), (h4, .inl (cI, 24, .inl no)), (k0, .inr (1, [.ref k1, .int dn, .int wr, .int pw])), (k1, .inl (cB, n, .inl f))] (fun (u : ep_M) => u = ep_load n f bl ((la, fi, si, ex), no, ch)) (fun (u : ep_M) => [(h0, .inr (0, [.ref h1, .ref h2, .ref h3, .ref h4, .int u.1.2.2.2, .int u.2.2])), (h1, .inl (cI, 200, .inl u.1.1)), (h2, .inl (cI, 200, .inl u.1.2.1)), (h3, .inl (cI, 200, .inl u.1.2.2.1)), (h4, .inl (cI, 24, .inl u.2.1)), (k0, .inr (1, [.ref k1, .int dn, .int wr, .int pw])), (k1, .inl (cB, n, .inl f))]) 0 0 := by
  intro sz
  refine Met.ofW (cc := b_M_load) (maxL := 7) (ret := none) (by decide) rfl ?_
  intro p e s m args below meth c s₁ B hml hv
  obtain ⟨rfl, hsz, hP, hK, hG, hD0⟩ := hv
  have hx := B.exec
  have hb := B.bytes
  have hr := B.returns
  have hts := fun (w : Cond) (h : w ∈ ew_T) => atoms_spec (ws := w_M_load) B.pre w (List.mem_cons_of_mem _ h)
  have hown : s.vm.findClass R_M = some m.cls := findClass_of_methodNamed B.named
  have hlocks := B.notSynchronized
  subst hsz
  have hD := hD0.self (sz := s.heap.size)
  generalize hAe : va_A [(h0, .inr (0, [.ref h1, .ref h2, .ref h3, .ref h4, .int ex, .int ch])), (h1, .inl (cI, 200, .inl la)), (h2, .inl (cI, 200, .inl fi)), (h3, .inl (cI, 200, .inl si)), (h4, .inl (cI, 24, .inl no)), (k0, .inr (1, [.ref k1, .int dn, .int wr, .int pw])), (k1, .inl (cB, n, .inl f))] s.heap.size = A at hD ⊢
  have hA : ∀ q : Nat, s.heap.size ≤ q → A q := fun q h => by rw [← hAe]; exact Or.inr h
  have hS : va_S A s.heap s.heap [] := va_S.rf
  have hP : va_P (dC, dI) vwCl [(h0, .inr (0, [.ref h1, .ref h2, .ref h3, .ref h4, .int ex, .int ch])), (h1, .inl (cI, 200, .inl la)), (h2, .inl (cI, 200, .inl fi)), (h3, .inl (cI, 200, .inl si)), (h4, .inl (cI, 24, .inl no)), (k0, .inr (1, [.ref k1, .int dn, .int wr, .int pw])), (k1, .inl (cB, n, .inl f))] s.heap := hP
  have hl := lv_entry ([.ref h0, .ref k0, .int bl]) (n := 7) (Nat.le_of_ble_eq_true rfl)
  rw [lg_entry_eq]
  generalize (lg_sl ([.ref h0, .ref k0, .int bl]) ++ List.replicate (7 - (lg_sl ([.ref h0, .ref k0, .int bl])).length) Slot.unset).toArray = ls at hl ⊢
  have hl : lv_has ls 7 [(0, .ref h0), (1, .ref k0), (2, .int bl)] := hl
  have C0 : ey_Cx p s m [.ref h0, .ref k0, .int bl].toArray meth c b_M_load 7 R_M ew_T none A := ⟨hx, hb, hml, hown, hts, hr, hlocks, hA⟩
  refine lv_iload_n hx hb d_M_load_0 rfl (lv_at hl 2 rfl) ?_
  refine lv_sipush (v := 4096) hx hb d_M_load_1 (by decide) ?_
  refine lv_imul hx hb d_M_load_4 ?_
  refine lv_istore_n (lv' := [(3, .int (bl * 4096)), (0, .ref h0), (1, .ref k0), (2, .int bl)]) hx hb d_M_load_5 rfl hl (by decide) rfl (fun ls hl => ?_)
  refine lv_aload_n hx hb d_M_load_6 rfl (lv_at hl 1 rfl) ?_
  refine ey_Vv (Wc := [(h0, .inr (0, [.ref h1, .ref h2, .ref h3, .ref h4, .int ex, .int ch])), (h4, .inl (cI, 24, .inl no))]) (wr := [(h1, .inl (cI, 200, .inl la)), (h2, .inl (cI, 200, .inl fi)), (h3, .inl (cI, 200, .inl si)), (k0, .inr (1, [.ref k1, .int dn, .int wr, .int pw])), (k1, .inl (cB, n, .inl f))]) (As := []) (rest := []) ⟨hx, hb, hml, hown, hts⟩ (c_mf_clear l dC dI cI cB cJ cZ h0 h1 h2 h3 h4 ex ch no) (cwV 0 hts (ew_V ew_143 ew_144 ew_145 ew_17 g_M_clear) rfl rfl rfl (by decide +kernel) ⟨Nat.le_of_ble_eq_true rfl, Nat.le_of_ble_eq_true rfl⟩) hK hG hP hD hS hA [0, 4] [1, 2, 3, 5, 6] rfl rfl (by decide) (by decide) (by decide) (ci := 0) (q0 := 0) rfl rfl rfl hl.1 rfl (Nat.le_of_ble_eq_true rfl) d_M_load_7 ⟨Nat.le_of_ble_eq_true rfl, Nat.le_of_ble_eq_true rfl⟩ (fun u_2 H locs e_3 hP hD hS => ?_)
  have hP : va_P (dC, dI) vwCl [(h1, .inl (cI, 200, .inl la)), (h2, .inl (cI, 200, .inl fi)), (h3, .inl (cI, 200, .inl si)), (k0, .inr (1, [.ref k1, .int dn, .int wr, .int pw])), (k1, .inl (cB, n, .inl f)), (h0, .inr (0, [.ref h1, .ref h2, .ref h3, .ref h4, .int 0, .int 0])), (h4, .inl (cI, 24, .inl u_2))] H := hP
  have hD : va_D A [(h1, .inl (cI, 200, .inl la)), (h2, .inl (cI, 200, .inl fi)), (h3, .inl (cI, 200, .inl si)), (k0, .inr (1, [.ref k1, .int dn, .int wr, .int pw])), (k1, .inl (cB, n, .inl f)), (h0, .inr (0, [.ref h1, .ref h2, .ref h3, .ref h4, .int 0, .int 0])), (h4, .inl (cI, 24, .inl u_2))] := hD
  subst e_3
  refine lv_aload_n hx hb d_M_load_10 rfl (lv_at hl 1 rfl) ?_
  refine lv_aload_n hx hb d_M_load_11 rfl (lv_at hl 2 rfl) ?_
  refine lv_iload_n hx hb d_M_load_12 rfl (lv_at hl 0 rfl) ?_
  refine lv_iconst (v := 0) hx hb d_M_load_13 (by decide) ?_
  refine lv_iadd hx hb d_M_load_14 ?_
  refine ey_Vi (Wc := [(k0, .inr (1, [.ref k1, .int dn, .int wr, .int pw])), (k1, .inl (cB, n, .inl f))]) (wr := [(h1, .inl (cI, 200, .inl la)), (h2, .inl (cI, 200, .inl fi)), (h3, .inl (cI, 200, .inl si)), (h0, .inr (0, [.ref h1, .ref h2, .ref h3, .ref h4, .int 0, .int 0])), (h4, .inl (cI, 24, .inl (ep_fill 24 0 no)))]) (As := [.int ((bl * 4096) + 0)]) (rest := [.ref h0]) ⟨hx, hb, hml, hown, hts⟩ (c_pl_readInt l dC dI cI cB cJ cZ k0 k1 dn wr pw n f ((bl * 4096) + 0) hn) (cwV 1 hts (ew_V ew_150 ew_151 ew_152 ew_15 g_P_readInt) rfl rfl rfl (by decide +kernel) ⟨Nat.le_of_ble_eq_true rfl, Nat.le_of_ble_eq_true rfl⟩) hK hG hP hD hS hA [3, 4] [0, 1, 2, 5, 6] rfl rfl (by decide) (by decide) (by decide) (ci := 1) (q0 := 0) rfl rfl rfl hl.1 rfl (Nat.le_of_ble_eq_true rfl) d_M_load_15 ⟨Nat.le_of_ble_eq_true rfl, Nat.le_of_ble_eq_true rfl⟩ (fun r_4 u_5 H locs e_6 hP hD hS => ?_)
  have hP : va_P (dC, dI) vwCl [(h1, .inl (cI, 200, .inl la)), (h2, .inl (cI, 200, .inl fi)), (h3, .inl (cI, 200, .inl si)), (h0, .inr (0, [.ref h1, .ref h2, .ref h3, .ref h4, .int 0, .int 0])), (h4, .inl (cI, 24, .inl (ep_fill 24 0 no))), (k0, .inr (1, [.ref k1, .int dn, .int wr, .int pw])), (k1, .inl (cB, n, .inl f))] H := hP
  have hD : va_D A [(h1, .inl (cI, 200, .inl la)), (h2, .inl (cI, 200, .inl fi)), (h3, .inl (cI, 200, .inl si)), (h0, .inr (0, [.ref h1, .ref h2, .ref h3, .ref h4, .int 0, .int 0])), (h4, .inl (cI, 24, .inl (ep_fill 24 0 no))), (k0, .inr (1, [.ref k1, .int dn, .int wr, .int pw])), (k1, .inl (cB, n, .inl f))] := hD
  subst e_6
  refine va_put (D := (dC, dI)) (ci := 0) (v := .int (ep_readInt n f ((bl * 4096) + 0))) (ty := .int) (C := R_M) (T := T_M) (N := 6) hx hb hts in_M t_M t_M_ok n_M hown hK hP hD hS 3 rfl rfl 5 (by decide) (hts _ ew_93) (fun _ h9 => h9) rfl (by decide +kernel) rfl rfl (Nat.le_of_ble_eq_true rfl) d_M_load_18 (fun H locs hP hD hS => ?_)
  have hP : va_P (dC, dI) vwCl [(h1, .inl (cI, 200, .inl la)), (h2, .inl (cI, 200, .inl fi)), (h3, .inl (cI, 200, .inl si)), (h0, .inr (0, [.ref h1, .ref h2, .ref h3, .ref h4, .int 0, .int (ep_readInt n f ((bl * 4096) + 0))])), (h4, .inl (cI, 24, .inl (ep_fill 24 0 no))), (k0, .inr (1, [.ref k1, .int dn, .int wr, .int pw])), (k1, .inl (cB, n, .inl f))] H := hP
  have hD : va_D A [(h1, .inl (cI, 200, .inl la)), (h2, .inl (cI, 200, .inl fi)), (h3, .inl (cI, 200, .inl si)), (h0, .inr (0, [.ref h1, .ref h2, .ref h3, .ref h4, .int 0, .int (ep_readInt n f ((bl * 4096) + 0))])), (h4, .inl (cI, 24, .inl (ep_fill 24 0 no))), (k0, .inr (1, [.ref k1, .int dn, .int wr, .int pw])), (k1, .inl (cB, n, .inl f))] := hD
  refine lv_iconst (v := nI 0) hx hb d_M_load_21 (by decide) ?_
  refine lv_istore (lv' := [(4, .int (nI 0)), (3, .int (bl * 4096)), (0, .ref h0), (1, .ref k0), (2, .int bl)]) hx hb d_M_load_22 hl (by decide) rfl (fun ls hl => ?_)
  exact c_mf_load_N (h0 := h0) (h1 := h1) (h2 := h2) (h3 := h3) (h4 := h4) (ex := ex) (ch := ch) (la := la) (fi := fi) (si := si) (no := no) (k0 := k0) (k1 := k1) (dn := dn) (wr := wr) (pw := pw) (n := n) (f := f) (bl := bl) hn hK hG C0 25 0 (ep_fill 24 0 no) rfl (by omega) rfl _ _ (ey_P (is := [3, 0, 1, 2, 4, 5, 6]) hP rfl) (hD.sub [3, 0, 1, 2, 4, 5, 6] (by decide) rfl) hS ls (lv_sub hl [2, 3, 1, 0] rfl)
end
section
set_option maxHeartbeats 4000000 in
set_option maxRecDepth 100000 in
theorem c_ed_free_L {p : Program} {l : Launch} {e : Env} {s : State} {m : MethodId} {args : Array Value} {below : List Frame} {meth : Method} {c : Code} {dC : Nat → ClassId} {dI : Nat → Nat → Nat} {cI cB cJ cZ : ClassId} {A : Nat → Prop} {d0 pl tp wi pg te nw nx : Nat} {n1 n2 n3 n4 : Nat} {ex ch : Int32} {fi si : ep_F} {n : Nat} {t0 : ep_F} (hn : n < 2 ^ 30) (hn2 : 2 ≤ n) (hK : va_K (dC, dI) vwCl (ey_kt cI cB cJ cZ) s) (hG : ex_G s) (C0 : ey_Cx p s m args meth c b_D_freeBlocks 3 R_D ew_T (some .int) A)  :
    ∀ (fuel : Nat) (i : Nat) (a : Int32) (hi : i + fuel = n + 2) (hin : i ≤ n) (hu : ep_fb n (ep_ten fi si ex n t0) fuel i a = ep_fb n (ep_ten fi si ex n t0) n 2 0), ∀ (H : Heap) (locs : List Loc), va_P (dC, dI) vwCl [(d0, .inr (3, [.ref pl, .ref tp, .ref wi, .ref pg, .ref te, .ref nw, .ref nx])), (nw, .inr (0, [.ref n1, .ref n2, .ref n3, .ref n4, .int ex, .int ch])), (n2, .inl (cI, 200, .inl fi)), (n3, .inl (cI, 200, .inl si)), (te, .inl (cI, n, .inl (ep_ten fi si ex n t0)))] H → va_D A [(d0, .inr (3, [.ref pl, .ref tp, .ref wi, .ref pg, .ref te, .ref nw, .ref nx])), (nw, .inr (0, [.ref n1, .ref n2, .ref n3, .ref n4, .int ex, .int ch])), (n2, .inl (cI, 200, .inl fi)), (n3, .inl (cI, 200, .inl si)), (te, .inl (cI, n, .inl (ep_ten fi si ex n t0)))] → va_S A s.heap H locs → ∀ (ls : Array Slot), lv_has ls 3 [(0, .ref d0), (1, .int a), (2, .int (nI i))] → W p l e { frames := 2, cells := 0, slots := 0, locals := 47 } s m args below meth c H locs 0 0 (MQ below (va_Qi (fun (r : Int32) (u : ep_F) => (r, u) = ep_free fi si ex n t0) (fun u t => ey_Post (dC, dI) vwCl A ((fun (u : ep_F) => [(d0, .inr (3, [.ref pl, .ref tp, .ref wi, .ref pg, .ref te, .ref nw, .ref nx])), (nw, .inr (0, [.ref n1, .ref n2, .ref n3, .ref n4, .int ex, .int ch])), (n2, .inl (cI, 200, .inl fi)), (n3, .inl (cI, 200, .inl si)), (te, .inl (cI, n, .inl u))]) u) t) A) args s 0 0 A) (F0 m 15 ls []) := by
  obtain ⟨hx, hb, hml, hown, hts, hr, hlocks, hA⟩ := id C0
  intro fuel
  induction fuel with
  | zero =>
    intro i a hi hin hu H locs hP hD hS ls hl
    exact absurd hi (by omega)
  | succ fuel ih =>
    intro i a hi hin hu H locs hP hD hS ls hl
    refine lv_iload_n hx hb d_D_freeBlocks_15 rfl (lv_at hl 2 rfl) ?_
    refine lv_aload_n hx hb d_D_freeBlocks_16 rfl (lv_at hl 0 rfl) ?_
    refine va_get (D := (dC, dI)) (ci := 3) (v := .ref te) (C := R_D) (T := T_D) (N := 7) hx hb hts in_D hown hK hP 0 rfl rfl 4 (by decide) (hts _ ew_113) (fun _ h9 => h9) rfl d_D_freeBlocks_17 ?_
    refine va_alen hx hb hK hP 4 0 rfl rfl (v := nI n) rfl d_D_freeBlocks_20 ?_
    refine lv_icmp_ge (tgt := 42) hx hb d_D_freeBlocks_21 (by decide) (fun c_21 => ?_) (fun c_21 => ?_)
    · refine lv_iload_n hx hb d_D_freeBlocks_42 rfl (lv_at hl 1 rfl) ?_
      exact ey_iret (W1 := fun (u : ep_F) => [(d0, .inr (3, [.ref pl, .ref tp, .ref wi, .ref pg, .ref te, .ref nw, .ref nx])), (nw, .inr (0, [.ref n1, .ref n2, .ref n3, .ref n4, .int ex, .int ch])), (n2, .inl (cI, 200, .inl fi)), (n3, .inl (cI, 200, .inl si)), (te, .inl (cI, n, .inl u))]) hx hb hr hlocks hP hD hS (ep_ten fi si ex n t0) [0, 1, 2, 3, 4] rfl (by decide) (by rw [ep_free, ← hu]; simp only [ep_fb, ↓reduceIte, c_21]) d_D_freeBlocks_43 (Nat.le_of_ble_eq_true rfl) (Nat.le_of_ble_eq_true rfl)
    · refine lv_aload_n hx hb d_D_freeBlocks_24 rfl (lv_at hl 0 rfl) ?_
      refine va_get (D := (dC, dI)) (ci := 3) (v := .ref te) (C := R_D) (T := T_D) (N := 7) hx hb hts in_D hown hK hP 0 rfl rfl 4 (by decide) (hts _ ew_113) (fun _ h9 => h9) rfl d_D_freeBlocks_25 ?_
      refine lv_iload_n hx hb d_D_freeBlocks_28 rfl (lv_at hl 2 rfl) ?_
      refine va_iald hx hb hK hP 4 0 rfl rfl (vp_in_nI (by rw [nI_leI (by omega) (by omega)] at c_21; omega) (by omega)) d_D_freeBlocks_29 ?_
      refine lv_if_ne (tgt := 36) hx hb d_D_freeBlocks_30 (by decide) (fun c_30 => ?_) (fun c_30 => ?_)
      · refine lv_iinc (v := nI (i + 1)) (lv' := [(2, .int (nI (i + 1))), (0, .ref d0), (1, .int a)]) hx hb d_D_freeBlocks_36 hl (k := 2) rfl (nI_1 i) (by decide) rfl (fun ls hl => ?_)
        refine lv_goto (tgt := 15) hx hb d_D_freeBlocks_39 (by decide) ?_
        have hlt : i < n := by
          rw [nI_leI (by omega) (by omega)] at c_21
          omega
        exact ih (i + 1) a (by omega) (by omega) (by rw [← hu, ep_fb, if_neg c_21, if_pos c_30]) _ _ hP hD hS ls (lv_sub hl [1, 2, 0] rfl)
      · refine lv_iinc (v := a + 1) (lv' := [(1, .int (a + 1)), (0, .ref d0), (2, .int (nI i))]) hx hb d_D_freeBlocks_33 hl (k := 1) rfl (rfl) (by decide) rfl (fun ls hl => ?_)
        refine lv_iinc (v := nI (i + 1)) (lv' := [(2, .int (nI (i + 1))), (1, .int (a + 1)), (0, .ref d0)]) hx hb d_D_freeBlocks_36 hl (k := 2) rfl (nI_1 i) (by decide) rfl (fun ls hl => ?_)
        refine lv_goto (tgt := 15) hx hb d_D_freeBlocks_39 (by decide) ?_
        have hlt : i < n := by
          rw [nI_leI (by omega) (by omega)] at c_21
          omega
        exact ih (i + 1) (a + 1) (by omega) (by omega) (by rw [← hu, ep_fb, if_neg c_21, if_neg (fun h9 => h9 c_30)]) _ _ hP hD hS ls (lv_sub hl [2, 1, 0] rfl)
set_option maxHeartbeats 4000000 in
set_option maxRecDepth 100000 in
theorem c_ed_free (l : Launch) (dC : Nat → ClassId) (dI : Nat → Nat → Nat) (cI cB cJ cZ : ClassId) (d0 pl tp wi pg te nw nx : Nat) (n1 n2 n3 n4 : Nat) (ex ch : Int32) (fi si : ep_F) (n : Nat) (t0 : ep_F) (hn : n < 2 ^ 30) (hn2 : 2 ≤ n) : ey_Mi l y_D_freeBlocks w_D_freeBlocks { frames := 2, cells := 0, slots := 0, locals := 47 } (dC, dI) vwCl (ey_kt cI cB cJ cZ) [.ref d0] [(d0, .inr (3, [.ref pl, .ref tp, .ref wi, .ref pg, .ref te, .ref nw, .ref nx])), (nw, .inr (0, [.ref n1, .ref n2, .ref n3, .ref n4, .int ex, .int ch])), (n2, .inl (cI, 200, .inl fi)), (n3, .inl (cI, 200, .inl si)), (te, .inl (cI, n, .inl t0))] (fun (r : Int32) (u : ep_F) => (r, u) = ep_free fi si ex n t0) (fun (u : ep_F) => [(d0, .inr (3, [.ref pl, .ref tp, .ref wi, .ref pg, .ref te, .ref nw, .ref nx])), (nw, .inr (0, [.ref n1, .ref n2, .ref n3, .ref n4, .int ex, .int ch])), (n2, .inl (cI, 200, .inl fi)), (n3, .inl (cI, 200, .inl si)), (te, .inl (cI, n, .inl u))]) 0 0 := by
  intro sz
  refine Met.ofW (cc := b_D_freeBlocks) (maxL := 3) (ret := (some .int)) (by decide) rfl ?_
  intro p e s m args below meth c s₁ B hml hv
  obtain ⟨rfl, hsz, hP, hK, hG, hD0⟩ := hv
  have hx := B.exec
  have hb := B.bytes
  have hr := B.returns
  have hts := fun (w : Cond) (h : w ∈ ew_T) => atoms_spec (ws := w_D_freeBlocks) B.pre w (List.mem_cons_of_mem _ h)
  have hown : s.vm.findClass R_D = some m.cls := findClass_of_methodNamed B.named
  have hlocks := B.notSynchronized
  subst hsz
  have hD := hD0.self (sz := s.heap.size)
  generalize hAe : va_A [(d0, .inr (3, [.ref pl, .ref tp, .ref wi, .ref pg, .ref te, .ref nw, .ref nx])), (nw, .inr (0, [.ref n1, .ref n2, .ref n3, .ref n4, .int ex, .int ch])), (n2, .inl (cI, 200, .inl fi)), (n3, .inl (cI, 200, .inl si)), (te, .inl (cI, n, .inl t0))] s.heap.size = A at hD ⊢
  have hA : ∀ q : Nat, s.heap.size ≤ q → A q := fun q h => by rw [← hAe]; exact Or.inr h
  have hS : va_S A s.heap s.heap [] := va_S.rf
  have hP : va_P (dC, dI) vwCl [(d0, .inr (3, [.ref pl, .ref tp, .ref wi, .ref pg, .ref te, .ref nw, .ref nx])), (nw, .inr (0, [.ref n1, .ref n2, .ref n3, .ref n4, .int ex, .int ch])), (n2, .inl (cI, 200, .inl fi)), (n3, .inl (cI, 200, .inl si)), (te, .inl (cI, n, .inl t0))] s.heap := hP
  have hl := lv_entry ([.ref d0]) (n := 3) (Nat.le_of_ble_eq_true rfl)
  rw [lg_entry_eq]
  generalize (lg_sl ([.ref d0]) ++ List.replicate (3 - (lg_sl ([.ref d0])).length) Slot.unset).toArray = ls at hl ⊢
  have hl : lv_has ls 3 [(0, .ref d0)] := hl
  have C0 : ey_Cx p s m [.ref d0].toArray meth c b_D_freeBlocks 3 R_D ew_T (some .int) A := ⟨hx, hb, hml, hown, hts, hr, hlocks, hA⟩
  refine lv_aload_n hx hb d_D_freeBlocks_0 rfl (lv_at hl 0 rfl) ?_
  refine va_get (D := (dC, dI)) (ci := 3) (v := .ref nw) (C := R_D) (T := T_D) (N := 7) hx hb hts in_D hown hK hP 0 rfl rfl 5 (by decide) (hts _ ew_114) (fun _ h9 => h9) rfl d_D_freeBlocks_1 ?_
  refine lv_aload_n hx hb d_D_freeBlocks_4 rfl (lv_at hl 0 rfl) ?_
  refine va_get (D := (dC, dI)) (ci := 3) (v := .ref te) (C := R_D) (T := T_D) (N := 7) hx hb hts in_D hown hK hP 0 rfl rfl 4 (by decide) (hts _ ew_113) (fun _ h9 => h9) rfl d_D_freeBlocks_5 ?_
  refine ey_Vv (Wc := [(nw, .inr (0, [.ref n1, .ref n2, .ref n3, .ref n4, .int ex, .int ch])), (n2, .inl (cI, 200, .inl fi)), (n3, .inl (cI, 200, .inl si)), (te, .inl (cI, n, .inl t0))]) (wr := [(d0, .inr (3, [.ref pl, .ref tp, .ref wi, .ref pg, .ref te, .ref nw, .ref nx]))]) (As := [.ref te]) (rest := []) ⟨hx, hb, hml, hown, hts⟩ (c_mf_count l dC dI cI cB cJ cZ nw n1 n2 n3 n4 ex ch fi si te n t0 hn) (cwV 1 hts (ew_V ew_334 ew_335 ew_336 ew_17 g_M_countTenants) rfl rfl rfl (by decide +kernel) ⟨Nat.le_of_ble_eq_true rfl, Nat.le_of_ble_eq_true rfl⟩) hK hG hP hD hS hA [1, 2, 3, 4] [0] rfl rfl (by decide) (by decide) (by decide) (ci := 0) (q0 := 0) rfl rfl rfl hl.1 rfl (Nat.le_of_ble_eq_true rfl) d_D_freeBlocks_8 ⟨Nat.le_of_ble_eq_true rfl, Nat.le_of_ble_eq_true rfl⟩ (fun u_2 H locs e_3 hP hD hS => ?_)
  have hP : va_P (dC, dI) vwCl [(d0, .inr (3, [.ref pl, .ref tp, .ref wi, .ref pg, .ref te, .ref nw, .ref nx])), (nw, .inr (0, [.ref n1, .ref n2, .ref n3, .ref n4, .int ex, .int ch])), (n2, .inl (cI, 200, .inl fi)), (n3, .inl (cI, 200, .inl si)), (te, .inl (cI, n, .inl u_2))] H := hP
  have hD : va_D A [(d0, .inr (3, [.ref pl, .ref tp, .ref wi, .ref pg, .ref te, .ref nw, .ref nx])), (nw, .inr (0, [.ref n1, .ref n2, .ref n3, .ref n4, .int ex, .int ch])), (n2, .inl (cI, 200, .inl fi)), (n3, .inl (cI, 200, .inl si)), (te, .inl (cI, n, .inl u_2))] := hD
  subst e_3
  refine lv_iconst (v := 0) hx hb d_D_freeBlocks_11 (by decide) ?_
  refine lv_istore_n (lv' := [(1, .int 0), (0, .ref d0)]) hx hb d_D_freeBlocks_12 rfl hl (by decide) rfl (fun ls hl => ?_)
  refine lv_iconst (v := nI 2) hx hb d_D_freeBlocks_13 (by decide) ?_
  refine lv_istore_n (lv' := [(2, .int (nI 2)), (1, .int 0), (0, .ref d0)]) hx hb d_D_freeBlocks_14 rfl hl (by decide) rfl (fun ls hl => ?_)
  exact c_ed_free_L (d0 := d0) (pl := pl) (tp := tp) (wi := wi) (pg := pg) (te := te) (nw := nw) (nx := nx) (n1 := n1) (n2 := n2) (n3 := n3) (n4 := n4) (ex := ex) (ch := ch) (fi := fi) (si := si) (n := n) (t0 := t0) hn hn2 hK hG C0 n 2 0 (by omega) hn2 rfl _ _ hP hD hS ls (lv_sub hl [2, 1, 0] rfl)
set_option maxHeartbeats 4000000 in
set_option maxRecDepth 100000 in
theorem c_ed_first_L {p : Program} {l : Launch} {e : Env} {s : State} {m : MethodId} {args : Array Value} {below : List Frame} {meth : Method} {c : Code} {dC : Nat → ClassId} {dI : Nat → Nat → Nat} {cI cB cJ cZ : ClassId} {A : Nat → Prop} {d0 pl tp wi pg te nw nx : Nat} {n1 n2 n3 n4 : Nat} {ex ch : Int32} {fi si : ep_F} {n : Nat} {t0 : ep_F} {x : Int32} (hn : n < 2 ^ 30) (hn2 : 2 ≤ n) (hK : va_K (dC, dI) vwCl (ey_kt cI cB cJ cZ) s) (hG : ex_G s) (C0 : ey_Cx p s m args meth c b_D_firstFreeRow 4 R_D ew_T (some .int) A)  :
    ∀ (fuel : Nat) (i : Nat) (a : Int32) (hi : i + fuel = n + 2) (hin : i ≤ n) (hu : ep_ff n (ep_ten fi si ex n t0) x fuel i a = ep_ff n (ep_ten fi si ex n t0) x n 2 0), ∀ (H : Heap) (locs : List Loc), va_P (dC, dI) vwCl [(d0, .inr (3, [.ref pl, .ref tp, .ref wi, .ref pg, .ref te, .ref nw, .ref nx])), (nw, .inr (0, [.ref n1, .ref n2, .ref n3, .ref n4, .int ex, .int ch])), (n2, .inl (cI, 200, .inl fi)), (n3, .inl (cI, 200, .inl si)), (te, .inl (cI, n, .inl (ep_ten fi si ex n t0)))] H → va_D A [(d0, .inr (3, [.ref pl, .ref tp, .ref wi, .ref pg, .ref te, .ref nw, .ref nx])), (nw, .inr (0, [.ref n1, .ref n2, .ref n3, .ref n4, .int ex, .int ch])), (n2, .inl (cI, 200, .inl fi)), (n3, .inl (cI, 200, .inl si)), (te, .inl (cI, n, .inl (ep_ten fi si ex n t0)))] → va_S A s.heap H locs → ∀ (ls : Array Slot), lv_has ls 4 [(0, .ref d0), (1, .int x), (2, .int a), (3, .int (nI i))] → W p l e { frames := 2, cells := 0, slots := 0, locals := 47 } s m args below meth c H locs 0 0 (MQ below (va_Qi (fun (r : Int32) (u : ep_F) => (r, u) = ep_first fi si ex n t0 x) (fun u t => ey_Post (dC, dI) vwCl A ((fun (u : ep_F) => [(d0, .inr (3, [.ref pl, .ref tp, .ref wi, .ref pg, .ref te, .ref nw, .ref nx])), (nw, .inr (0, [.ref n1, .ref n2, .ref n3, .ref n4, .int ex, .int ch])), (n2, .inl (cI, 200, .inl fi)), (n3, .inl (cI, 200, .inl si)), (te, .inl (cI, n, .inl u))]) u) t) A) args s 0 0 A) (F0 m 15 ls []) := by
  obtain ⟨hx, hb, hml, hown, hts, hr, hlocks, hA⟩ := id C0
  intro fuel
  induction fuel with
  | zero =>
    intro i a hi hin hu H locs hP hD hS ls hl
    exact absurd hi (by omega)
  | succ fuel ih =>
    intro i a hi hin hu H locs hP hD hS ls hl
    refine lv_iload_n hx hb d_D_firstFreeRow_15 rfl (lv_at hl 3 rfl) ?_
    refine lv_aload_n hx hb d_D_firstFreeRow_16 rfl (lv_at hl 0 rfl) ?_
    refine va_get (D := (dC, dI)) (ci := 3) (v := .ref te) (C := R_D) (T := T_D) (N := 7) hx hb hts in_D hown hK hP 0 rfl rfl 4 (by decide) (hts _ ew_113) (fun _ h9 => h9) rfl d_D_firstFreeRow_17 ?_
    refine va_alen hx hb hK hP 4 0 rfl rfl (v := nI n) rfl d_D_firstFreeRow_20 ?_
    refine lv_icmp_ge (tgt := 58) hx hb d_D_firstFreeRow_21 (by decide) (fun c_21 => ?_) (fun c_21 => ?_)
    · refine lv_iconst (v := (-1)) hx hb d_D_firstFreeRow_58 (by decide) ?_
      exact ey_iret (W1 := fun (u : ep_F) => [(d0, .inr (3, [.ref pl, .ref tp, .ref wi, .ref pg, .ref te, .ref nw, .ref nx])), (nw, .inr (0, [.ref n1, .ref n2, .ref n3, .ref n4, .int ex, .int ch])), (n2, .inl (cI, 200, .inl fi)), (n3, .inl (cI, 200, .inl si)), (te, .inl (cI, n, .inl u))]) hx hb hr hlocks hP hD hS (ep_ten fi si ex n t0) [0, 1, 2, 3, 4] rfl (by decide) (by rw [ep_first, ← hu, ep_ff, if_pos c_21]) d_D_firstFreeRow_59 (Nat.le_of_ble_eq_true rfl) (Nat.le_of_ble_eq_true rfl)
    · refine lv_aload_n hx hb d_D_firstFreeRow_24 rfl (lv_at hl 0 rfl) ?_
      refine va_get (D := (dC, dI)) (ci := 3) (v := .ref te) (C := R_D) (T := T_D) (N := 7) hx hb hts in_D hown hK hP 0 rfl rfl 4 (by decide) (hts _ ew_113) (fun _ h9 => h9) rfl d_D_firstFreeRow_25 ?_
      refine lv_iload_n hx hb d_D_firstFreeRow_28 rfl (lv_at hl 3 rfl) ?_
      refine va_iald hx hb hK hP 4 0 rfl rfl (vp_in_nI (by rw [nI_leI (by omega) (by omega)] at c_21; omega) (by omega)) d_D_firstFreeRow_29 ?_
      refine lv_if_ne (tgt := 39) hx hb d_D_firstFreeRow_30 (by decide) (fun c_30 => ?_) (fun c_30 => ?_)
      · refine lv_iconst (v := 0) hx hb d_D_firstFreeRow_39 (by decide) ?_
        refine lv_istore_n (lv' := [(2, .int 0), (0, .ref d0), (1, .int x), (3, .int (nI i))]) hx hb d_D_firstFreeRow_40 rfl hl (by decide) rfl (fun ls hl => ?_)
        refine lv_iload_n hx hb d_D_firstFreeRow_41 rfl (lv_at hl 0 rfl) ?_
        refine lv_iload_n hx hb d_D_firstFreeRow_42 rfl (lv_at hl 2 rfl) ?_
        refine lv_icmp_ne (tgt := 52) hx hb d_D_firstFreeRow_43 (by decide) (fun c_43 => ?_) (fun c_43 => ?_)
        · refine lv_iinc (v := nI (i + 1)) (lv' := [(3, .int (nI (i + 1))), (2, .int 0), (0, .ref d0), (1, .int x)]) hx hb d_D_firstFreeRow_52 hl (k := 3) rfl (nI_1 i) (by decide) rfl (fun ls hl => ?_)
          refine lv_goto (tgt := 15) hx hb d_D_firstFreeRow_55 (by decide) ?_
          have hlt : i < n := by
            rw [nI_leI (by omega) (by omega)] at c_21
            omega
          exact ih (i + 1) 0 (by omega) (by omega) (by rw [← hu, ep_ff, if_neg c_21, if_pos c_30, if_pos c_43]) _ _ hP hD hS ls (lv_sub hl [2, 3, 1, 0] rfl)
        · refine lv_iload_n hx hb d_D_firstFreeRow_46 rfl (lv_at hl 3 rfl) ?_
          refine lv_iload_n hx hb d_D_firstFreeRow_47 rfl (lv_at hl 2 rfl) ?_
          refine lv_isub hx hb d_D_firstFreeRow_48 ?_
          refine lv_iconst (v := 1) hx hb d_D_firstFreeRow_49 (by decide) ?_
          refine lv_iadd hx hb d_D_firstFreeRow_50 ?_
          exact ey_iret (W1 := fun (u : ep_F) => [(d0, .inr (3, [.ref pl, .ref tp, .ref wi, .ref pg, .ref te, .ref nw, .ref nx])), (nw, .inr (0, [.ref n1, .ref n2, .ref n3, .ref n4, .int ex, .int ch])), (n2, .inl (cI, 200, .inl fi)), (n3, .inl (cI, 200, .inl si)), (te, .inl (cI, n, .inl u))]) hx hb hr hlocks hP hD hS (ep_ten fi si ex n t0) [0, 1, 2, 3, 4] rfl (by decide) (by rw [ep_first, ← hu, ep_ff, if_neg c_21, if_pos c_30, if_neg (fun h9 => h9 c_43)]) d_D_firstFreeRow_51 (Nat.le_of_ble_eq_true rfl) (Nat.le_of_ble_eq_true rfl)
      · refine lv_iload_n hx hb d_D_firstFreeRow_33 rfl (lv_at hl 2 rfl) ?_
        refine lv_iconst (v := 1) hx hb d_D_firstFreeRow_34 (by decide) ?_
        refine lv_iadd hx hb d_D_firstFreeRow_35 ?_
        refine lv_goto (tgt := 40) hx hb d_D_firstFreeRow_36 (by decide) ?_
        refine lv_istore_n (lv' := [(2, .int (a + 1)), (0, .ref d0), (1, .int x), (3, .int (nI i))]) hx hb d_D_firstFreeRow_40 rfl hl (by decide) rfl (fun ls hl => ?_)
        refine lv_iload_n hx hb d_D_firstFreeRow_41 rfl (lv_at hl 0 rfl) ?_
        refine lv_iload_n hx hb d_D_firstFreeRow_42 rfl (lv_at hl 2 rfl) ?_
        refine lv_icmp_ne (tgt := 52) hx hb d_D_firstFreeRow_43 (by decide) (fun c_43 => ?_) (fun c_43 => ?_)
        · refine lv_iinc (v := nI (i + 1)) (lv' := [(3, .int (nI (i + 1))), (2, .int (a + 1)), (0, .ref d0), (1, .int x)]) hx hb d_D_firstFreeRow_52 hl (k := 3) rfl (nI_1 i) (by decide) rfl (fun ls hl => ?_)
          refine lv_goto (tgt := 15) hx hb d_D_firstFreeRow_55 (by decide) ?_
          have hlt : i < n := by
            rw [nI_leI (by omega) (by omega)] at c_21
            omega
          exact ih (i + 1) (a + 1) (by omega) (by omega) (by rw [← hu, ep_ff, if_neg c_21, if_neg (fun h9 => h9 c_30), if_pos c_43]) _ _ hP hD hS ls (lv_sub hl [2, 3, 1, 0] rfl)
        · refine lv_iload_n hx hb d_D_firstFreeRow_46 rfl (lv_at hl 3 rfl) ?_
          refine lv_iload_n hx hb d_D_firstFreeRow_47 rfl (lv_at hl 2 rfl) ?_
          refine lv_isub hx hb d_D_firstFreeRow_48 ?_
          refine lv_iconst (v := 1) hx hb d_D_firstFreeRow_49 (by decide) ?_
          refine lv_iadd hx hb d_D_firstFreeRow_50 ?_
          exact ey_iret (W1 := fun (u : ep_F) => [(d0, .inr (3, [.ref pl, .ref tp, .ref wi, .ref pg, .ref te, .ref nw, .ref nx])), (nw, .inr (0, [.ref n1, .ref n2, .ref n3, .ref n4, .int ex, .int ch])), (n2, .inl (cI, 200, .inl fi)), (n3, .inl (cI, 200, .inl si)), (te, .inl (cI, n, .inl u))]) hx hb hr hlocks hP hD hS (ep_ten fi si ex n t0) [0, 1, 2, 3, 4] rfl (by decide) (by rw [ep_first, ← hu, ep_ff, if_neg c_21, if_neg (fun h9 => h9 c_30), if_neg (fun h9 => h9 c_43)]) d_D_firstFreeRow_51 (Nat.le_of_ble_eq_true rfl) (Nat.le_of_ble_eq_true rfl)
set_option maxHeartbeats 4000000 in
set_option maxRecDepth 100000 in
theorem c_ed_first (l : Launch) (dC : Nat → ClassId) (dI : Nat → Nat → Nat) (cI cB cJ cZ : ClassId) (d0 pl tp wi pg te nw nx : Nat) (n1 n2 n3 n4 : Nat) (ex ch : Int32) (fi si : ep_F) (n : Nat) (t0 : ep_F) (x : Int32) (hn : n < 2 ^ 30) (hn2 : 2 ≤ n) : ey_Mi l y_D_firstFreeRow w_D_firstFreeRow { frames := 2, cells := 0, slots := 0, locals := 47 } (dC, dI) vwCl (ey_kt cI cB cJ cZ) [.ref d0, .int x] [(d0, .inr (3, [.ref pl, .ref tp, .ref wi, .ref pg, .ref te, .ref nw, .ref nx])), (nw, .inr (0, [.ref n1, .ref n2, .ref n3, .ref n4, .int ex, .int ch])), (n2, .inl (cI, 200, .inl fi)), (n3, .inl (cI, 200, .inl si)), (te, .inl (cI, n, .inl t0))] (fun (r : Int32) (u : ep_F) => (r, u) = ep_first fi si ex n t0 x) (fun (u : ep_F) => [(d0, .inr (3, [.ref pl, .ref tp, .ref wi, .ref pg, .ref te, .ref nw, .ref nx])), (nw, .inr (0, [.ref n1, .ref n2, .ref n3, .ref n4, .int ex, .int ch])), (n2, .inl (cI, 200, .inl fi)), (n3, .inl (cI, 200, .inl si)), (te, .inl (cI, n, .inl u))]) 0 0 := by
  intro sz
  refine Met.ofW (cc := b_D_firstFreeRow) (maxL := 4) (ret := (some .int)) (by decide) rfl ?_
  intro p e s m args below meth c s₁ B hml hv
  obtain ⟨rfl, hsz, hP, hK, hG, hD0⟩ := hv
  have hx := B.exec
  have hb := B.bytes
  have hr := B.returns
  have hts := fun (w : Cond) (h : w ∈ ew_T) => atoms_spec (ws := w_D_firstFreeRow) B.pre w (List.mem_cons_of_mem _ h)
  have hown : s.vm.findClass R_D = some m.cls := findClass_of_methodNamed B.named
  have hlocks := B.notSynchronized
  subst hsz
  have hD := hD0.self (sz := s.heap.size)
  generalize hAe : va_A [(d0, .inr (3, [.ref pl, .ref tp, .ref wi, .ref pg, .ref te, .ref nw, .ref nx])), (nw, .inr (0, [.ref n1, .ref n2, .ref n3, .ref n4, .int ex, .int ch])), (n2, .inl (cI, 200, .inl fi)), (n3, .inl (cI, 200, .inl si)), (te, .inl (cI, n, .inl t0))] s.heap.size = A at hD ⊢
  have hA : ∀ q : Nat, s.heap.size ≤ q → A q := fun q h => by rw [← hAe]; exact Or.inr h
  have hS : va_S A s.heap s.heap [] := va_S.rf
  have hP : va_P (dC, dI) vwCl [(d0, .inr (3, [.ref pl, .ref tp, .ref wi, .ref pg, .ref te, .ref nw, .ref nx])), (nw, .inr (0, [.ref n1, .ref n2, .ref n3, .ref n4, .int ex, .int ch])), (n2, .inl (cI, 200, .inl fi)), (n3, .inl (cI, 200, .inl si)), (te, .inl (cI, n, .inl t0))] s.heap := hP
  have hl := lv_entry ([.ref d0, .int x]) (n := 4) (Nat.le_of_ble_eq_true rfl)
  rw [lg_entry_eq]
  generalize (lg_sl ([.ref d0, .int x]) ++ List.replicate (4 - (lg_sl ([.ref d0, .int x])).length) Slot.unset).toArray = ls at hl ⊢
  have hl : lv_has ls 4 [(0, .ref d0), (1, .int x)] := hl
  have C0 : ey_Cx p s m [.ref d0, .int x].toArray meth c b_D_firstFreeRow 4 R_D ew_T (some .int) A := ⟨hx, hb, hml, hown, hts, hr, hlocks, hA⟩
  refine lv_aload_n hx hb d_D_firstFreeRow_0 rfl (lv_at hl 0 rfl) ?_
  refine va_get (D := (dC, dI)) (ci := 3) (v := .ref nw) (C := R_D) (T := T_D) (N := 7) hx hb hts in_D hown hK hP 0 rfl rfl 5 (by decide) (hts _ ew_114) (fun _ h9 => h9) rfl d_D_firstFreeRow_1 ?_
  refine lv_aload_n hx hb d_D_firstFreeRow_4 rfl (lv_at hl 0 rfl) ?_
  refine va_get (D := (dC, dI)) (ci := 3) (v := .ref te) (C := R_D) (T := T_D) (N := 7) hx hb hts in_D hown hK hP 0 rfl rfl 4 (by decide) (hts _ ew_113) (fun _ h9 => h9) rfl d_D_firstFreeRow_5 ?_
  refine ey_Vv (Wc := [(nw, .inr (0, [.ref n1, .ref n2, .ref n3, .ref n4, .int ex, .int ch])), (n2, .inl (cI, 200, .inl fi)), (n3, .inl (cI, 200, .inl si)), (te, .inl (cI, n, .inl t0))]) (wr := [(d0, .inr (3, [.ref pl, .ref tp, .ref wi, .ref pg, .ref te, .ref nw, .ref nx]))]) (As := [.ref te]) (rest := []) ⟨hx, hb, hml, hown, hts⟩ (c_mf_count l dC dI cI cB cJ cZ nw n1 n2 n3 n4 ex ch fi si te n t0 hn) (cwV 1 hts (ew_V ew_334 ew_335 ew_336 ew_17 g_M_countTenants) rfl rfl rfl (by decide +kernel) ⟨Nat.le_of_ble_eq_true rfl, Nat.le_of_ble_eq_true rfl⟩) hK hG hP hD hS hA [1, 2, 3, 4] [0] rfl rfl (by decide) (by decide) (by decide) (ci := 0) (q0 := 0) rfl rfl rfl hl.1 rfl (Nat.le_of_ble_eq_true rfl) d_D_firstFreeRow_8 ⟨Nat.le_of_ble_eq_true rfl, Nat.le_of_ble_eq_true rfl⟩ (fun u_2 H locs e_3 hP hD hS => ?_)
  have hP : va_P (dC, dI) vwCl [(d0, .inr (3, [.ref pl, .ref tp, .ref wi, .ref pg, .ref te, .ref nw, .ref nx])), (nw, .inr (0, [.ref n1, .ref n2, .ref n3, .ref n4, .int ex, .int ch])), (n2, .inl (cI, 200, .inl fi)), (n3, .inl (cI, 200, .inl si)), (te, .inl (cI, n, .inl u_2))] H := hP
  have hD : va_D A [(d0, .inr (3, [.ref pl, .ref tp, .ref wi, .ref pg, .ref te, .ref nw, .ref nx])), (nw, .inr (0, [.ref n1, .ref n2, .ref n3, .ref n4, .int ex, .int ch])), (n2, .inl (cI, 200, .inl fi)), (n3, .inl (cI, 200, .inl si)), (te, .inl (cI, n, .inl u_2))] := hD
  subst e_3
  refine lv_iconst (v := 0) hx hb d_D_firstFreeRow_11 (by decide) ?_
  refine lv_istore_n (lv' := [(2, .int 0), (0, .ref d0), (1, .int x)]) hx hb d_D_firstFreeRow_12 rfl hl (by decide) rfl (fun ls hl => ?_)
  refine lv_iconst (v := nI 2) hx hb d_D_firstFreeRow_13 (by decide) ?_
  refine lv_istore_n (lv' := [(3, .int (nI 2)), (2, .int 0), (0, .ref d0), (1, .int x)]) hx hb d_D_firstFreeRow_14 rfl hl (by decide) rfl (fun ls hl => ?_)
  exact c_ed_first_L (d0 := d0) (pl := pl) (tp := tp) (wi := wi) (pg := pg) (te := te) (nw := nw) (nx := nx) (n1 := n1) (n2 := n2) (n3 := n3) (n4 := n4) (ex := ex) (ch := ch) (fi := fi) (si := si) (n := n) (t0 := t0) (x := x) hn hn2 hK hG C0 n 2 0 (by omega) hn2 rfl _ _ hP hD hS ls (lv_sub hl [2, 3, 1, 0] rfl)
end
section
set_option maxHeartbeats 4000000 in
set_option maxRecDepth 100000 in
theorem c_ed_swap (l : Launch) (dC : Nat → ClassId) (dI : Nat → Nat → Nat) (cI cB cJ cZ : ClassId) (d0 pl tp wi pg te nw nx : Nat) : ey_Mv l y_D_makeNextCount w_D_makeNextCount { frames := 0, cells := 0, slots := 0, locals := 0 } (dC, dI) vwCl (ey_kt cI cB cJ cZ) [.ref d0] [(d0, .inr (3, [.ref pl, .ref tp, .ref wi, .ref pg, .ref te, .ref nw, .ref nx]))] (fun (_ : Unit) => True) (fun (u : Unit) => [(d0, .inr (3, [.ref pl, .ref tp, .ref wi, .ref pg, .ref te, .ref nx, .ref nw]))]) 0 0 := by
  intro sz
  refine Met.ofW (cc := b_D_makeNextCount) (maxL := 2) (ret := none) (by decide) rfl ?_
  intro p e s m args below meth c s₁ B hml hv
  obtain ⟨rfl, hsz, hP, hK, hG, hD0⟩ := hv
  have hx := B.exec
  have hb := B.bytes
  have hr := B.returns
  have hts := fun (w : Cond) (h : w ∈ ew_T) => atoms_spec (ws := w_D_makeNextCount) B.pre w (List.mem_cons_of_mem _ h)
  have hown : s.vm.findClass R_D = some m.cls := findClass_of_methodNamed B.named
  have hlocks := B.notSynchronized
  subst hsz
  have hD := hD0.self (sz := s.heap.size)
  generalize hAe : va_A [(d0, .inr (3, [.ref pl, .ref tp, .ref wi, .ref pg, .ref te, .ref nw, .ref nx]))] s.heap.size = A at hD ⊢
  have hA : ∀ q : Nat, s.heap.size ≤ q → A q := fun q h => by rw [← hAe]; exact Or.inr h
  have hS : va_S A s.heap s.heap [] := va_S.rf
  have hP : va_P (dC, dI) vwCl [(d0, .inr (3, [.ref pl, .ref tp, .ref wi, .ref pg, .ref te, .ref nw, .ref nx]))] s.heap := hP
  have hl := lv_entry ([.ref d0]) (n := 2) (Nat.le_of_ble_eq_true rfl)
  rw [lg_entry_eq]
  generalize (lg_sl ([.ref d0]) ++ List.replicate (2 - (lg_sl ([.ref d0])).length) Slot.unset).toArray = ls at hl ⊢
  have hl : lv_has ls 2 [(0, .ref d0)] := hl
  refine lv_aload_n hx hb d_D_makeNextCount_0 rfl (lv_at hl 0 rfl) ?_
  refine va_get (D := (dC, dI)) (ci := 3) (v := .ref nw) (C := R_D) (T := T_D) (N := 7) hx hb hts in_D hown hK hP 0 rfl rfl 5 (by decide) (hts _ ew_114) (fun _ h9 => h9) rfl d_D_makeNextCount_1 ?_
  refine lv_astore_n (lv' := [(1, .ref nw), (0, .ref d0)]) hx hb d_D_makeNextCount_4 rfl hl (by decide) rfl (fun ls hl => ?_)
  refine lv_aload_n hx hb d_D_makeNextCount_5 rfl (lv_at hl 1 rfl) ?_
  refine lv_aload_n hx hb d_D_makeNextCount_6 rfl (lv_at hl 1 rfl) ?_
  refine va_get (D := (dC, dI)) (ci := 3) (v := .ref nx) (C := R_D) (T := T_D) (N := 7) hx hb hts in_D hown hK hP 0 rfl rfl 6 (by decide) (hts _ ew_115) (fun _ h9 => h9) rfl d_D_makeNextCount_7 ?_
  refine va_put (D := (dC, dI)) (ci := 3) (v := .ref nx) (ty := (.object "ExtentDisk$Manifest")) (C := R_D) (T := T_D) (N := 7) hx hb hts in_D t_D t_D_ok n_D hown hK hP hD hS 0 rfl rfl 5 (by decide) (hts _ ew_114) (fun _ h9 => h9) rfl (by decide +kernel) rfl rfl (Nat.le_of_ble_eq_true rfl) d_D_makeNextCount_10 (fun H locs hP hD hS => ?_)
  have hP : va_P (dC, dI) vwCl [(d0, .inr (3, [.ref pl, .ref tp, .ref wi, .ref pg, .ref te, .ref nx, .ref nx]))] H := hP
  have hD : va_D A [(d0, .inr (3, [.ref pl, .ref tp, .ref wi, .ref pg, .ref te, .ref nx, .ref nx]))] := hD
  refine lv_aload_n hx hb d_D_makeNextCount_13 rfl (lv_at hl 1 rfl) ?_
  refine lv_aload_n hx hb d_D_makeNextCount_14 rfl (lv_at hl 0 rfl) ?_
  refine va_put (D := (dC, dI)) (ci := 3) (v := .ref nw) (ty := (.object "ExtentDisk$Manifest")) (C := R_D) (T := T_D) (N := 7) hx hb hts in_D t_D t_D_ok n_D hown hK hP hD hS 0 rfl rfl 6 (by decide) (hts _ ew_115) (fun _ h9 => h9) rfl (by decide +kernel) rfl rfl (Nat.le_of_ble_eq_true rfl) d_D_makeNextCount_15 (fun H locs hP hD hS => ?_)
  have hP : va_P (dC, dI) vwCl [(d0, .inr (3, [.ref pl, .ref tp, .ref wi, .ref pg, .ref te, .ref nx, .ref nw]))] H := hP
  have hD : va_D A [(d0, .inr (3, [.ref pl, .ref tp, .ref wi, .ref pg, .ref te, .ref nx, .ref nw]))] := hD
  exact ey_vret (W1 := fun (u : Unit) => [(d0, .inr (3, [.ref pl, .ref tp, .ref wi, .ref pg, .ref te, .ref nx, .ref nw]))]) hx hb hr hlocks hP hD hS () [0] rfl (by decide) trivial d_D_makeNextCount_18 (Nat.le_of_ble_eq_true rfl) (Nat.le_of_ble_eq_true rfl)
set_option maxHeartbeats 4000000 in
set_option maxRecDepth 100000 in
theorem c_ed_forget (l : Launch) (dC : Nat → ClassId) (dI : Nat → Nat → Nat) (cI cB cJ cZ : ClassId) (d0 pl tp wi pg te nw nx : Nat) (tb : Nat) (ln : Int32) (n1 n2 n3 n4 : Nat) (ex ch : Int32) (no wf : ep_F) : ey_Mv l y_D_forget w_D_forget { frames := 2, cells := 0, slots := 0, locals := 45 } (dC, dI) vwCl (ey_kt cI cB cJ cZ) [.ref d0] [(d0, .inr (3, [.ref pl, .ref tp, .ref wi, .ref pg, .ref te, .ref nw, .ref nx])), (tp, .inr (2, [.ref tb, .int ln])), (nw, .inr (0, [.ref n1, .ref n2, .ref n3, .ref n4, .int ex, .int ch])), (n4, .inl (cI, 24, .inl no)), (wi, .inl (cI, 24, .inl wf))] (fun (u : ep_F × ep_F) => u = (ep_fill 24 0 no, ep_fill 24 0 wf)) (fun (u : ep_F × ep_F) => [(d0, .inr (3, [.ref pl, .ref tp, .ref wi, .ref pg, .ref te, .ref nw, .ref nx])), (tp, .inr (2, [.ref tb, .int 0])), (nw, .inr (0, [.ref n1, .ref n2, .ref n3, .ref n4, .int 0, .int 0])), (n4, .inl (cI, 24, .inl u.1)), (wi, .inl (cI, 24, .inl u.2))]) 0 0 := by
  intro sz
  refine Met.ofW (cc := b_D_forget) (maxL := 1) (ret := none) (by decide) rfl ?_
  intro p e s m args below meth c s₁ B hml hv
  obtain ⟨rfl, hsz, hP, hK, hG, hD0⟩ := hv
  have hx := B.exec
  have hb := B.bytes
  have hr := B.returns
  have hts := fun (w : Cond) (h : w ∈ ew_T) => atoms_spec (ws := w_D_forget) B.pre w (List.mem_cons_of_mem _ h)
  have hown : s.vm.findClass R_D = some m.cls := findClass_of_methodNamed B.named
  have hlocks := B.notSynchronized
  subst hsz
  have hD := hD0.self (sz := s.heap.size)
  generalize hAe : va_A [(d0, .inr (3, [.ref pl, .ref tp, .ref wi, .ref pg, .ref te, .ref nw, .ref nx])), (tp, .inr (2, [.ref tb, .int ln])), (nw, .inr (0, [.ref n1, .ref n2, .ref n3, .ref n4, .int ex, .int ch])), (n4, .inl (cI, 24, .inl no)), (wi, .inl (cI, 24, .inl wf))] s.heap.size = A at hD ⊢
  have hA : ∀ q : Nat, s.heap.size ≤ q → A q := fun q h => by rw [← hAe]; exact Or.inr h
  have hS : va_S A s.heap s.heap [] := va_S.rf
  have hP : va_P (dC, dI) vwCl [(d0, .inr (3, [.ref pl, .ref tp, .ref wi, .ref pg, .ref te, .ref nw, .ref nx])), (tp, .inr (2, [.ref tb, .int ln])), (nw, .inr (0, [.ref n1, .ref n2, .ref n3, .ref n4, .int ex, .int ch])), (n4, .inl (cI, 24, .inl no)), (wi, .inl (cI, 24, .inl wf))] s.heap := hP
  have hl := lv_entry ([.ref d0]) (n := 1) (Nat.le_of_ble_eq_true rfl)
  rw [lg_entry_eq]
  generalize (lg_sl ([.ref d0]) ++ List.replicate (1 - (lg_sl ([.ref d0])).length) Slot.unset).toArray = ls at hl ⊢
  have hl : lv_has ls 1 [(0, .ref d0)] := hl
  refine lv_aload_n hx hb d_D_forget_0 rfl (lv_at hl 0 rfl) ?_
  refine va_get (D := (dC, dI)) (ci := 3) (v := .ref tp) (C := R_D) (T := T_D) (N := 7) hx hb hts in_D hown hK hP 0 rfl rfl 1 (by decide) (hts _ ew_110) (fun _ h9 => h9) rfl d_D_forget_1 ?_
  refine lv_iconst (v := 0) hx hb d_D_forget_4 (by decide) ?_
  refine va_put (D := (dC, dI)) (ci := 2) (v := .int 0) (ty := .int) (C := R_Tp) (T := T_Tp) (N := 2) hx hb hts in_Tp t_Tp t_Tp_ok n_Tp hown hK hP hD hS 1 rfl rfl 1 (by decide) (hts _ ew_71) (fun _ h9 => h9) rfl (by decide +kernel) rfl rfl (Nat.le_of_ble_eq_true rfl) d_D_forget_5 (fun H locs hP hD hS => ?_)
  have hP : va_P (dC, dI) vwCl [(d0, .inr (3, [.ref pl, .ref tp, .ref wi, .ref pg, .ref te, .ref nw, .ref nx])), (tp, .inr (2, [.ref tb, .int 0])), (nw, .inr (0, [.ref n1, .ref n2, .ref n3, .ref n4, .int ex, .int ch])), (n4, .inl (cI, 24, .inl no)), (wi, .inl (cI, 24, .inl wf))] H := hP
  have hD : va_D A [(d0, .inr (3, [.ref pl, .ref tp, .ref wi, .ref pg, .ref te, .ref nw, .ref nx])), (tp, .inr (2, [.ref tb, .int 0])), (nw, .inr (0, [.ref n1, .ref n2, .ref n3, .ref n4, .int ex, .int ch])), (n4, .inl (cI, 24, .inl no)), (wi, .inl (cI, 24, .inl wf))] := hD
  refine lv_aload_n hx hb d_D_forget_8 rfl (lv_at hl 0 rfl) ?_
  refine va_get (D := (dC, dI)) (ci := 3) (v := .ref nw) (C := R_D) (T := T_D) (N := 7) hx hb hts in_D hown hK hP 0 rfl rfl 5 (by decide) (hts _ ew_114) (fun _ h9 => h9) rfl d_D_forget_9 ?_
  refine ey_Vv (Wc := [(nw, .inr (0, [.ref n1, .ref n2, .ref n3, .ref n4, .int ex, .int ch])), (n4, .inl (cI, 24, .inl no))]) (wr := [(d0, .inr (3, [.ref pl, .ref tp, .ref wi, .ref pg, .ref te, .ref nw, .ref nx])), (tp, .inr (2, [.ref tb, .int 0])), (wi, .inl (cI, 24, .inl wf))]) (As := []) (rest := []) ⟨hx, hb, hml, hown, hts⟩ (c_mf_clear l dC dI cI cB cJ cZ nw n1 n2 n3 n4 ex ch no) (cwV 0 hts (ew_V ew_355 ew_144 ew_145 ew_17 g_M_clear) rfl rfl rfl (by decide +kernel) ⟨Nat.le_of_ble_eq_true rfl, Nat.le_of_ble_eq_true rfl⟩) hK hG hP hD hS hA [2, 3] [0, 1, 4] rfl rfl (by decide) (by decide) (by decide) (ci := 0) (q0 := 0) rfl rfl rfl hl.1 rfl (Nat.le_of_ble_eq_true rfl) d_D_forget_12 ⟨Nat.le_of_ble_eq_true rfl, Nat.le_of_ble_eq_true rfl⟩ (fun u_2 H locs e_3 hP hD hS => ?_)
  have hP : va_P (dC, dI) vwCl [(d0, .inr (3, [.ref pl, .ref tp, .ref wi, .ref pg, .ref te, .ref nw, .ref nx])), (tp, .inr (2, [.ref tb, .int 0])), (wi, .inl (cI, 24, .inl wf)), (nw, .inr (0, [.ref n1, .ref n2, .ref n3, .ref n4, .int 0, .int 0])), (n4, .inl (cI, 24, .inl u_2))] H := hP
  have hD : va_D A [(d0, .inr (3, [.ref pl, .ref tp, .ref wi, .ref pg, .ref te, .ref nw, .ref nx])), (tp, .inr (2, [.ref tb, .int 0])), (wi, .inl (cI, 24, .inl wf)), (nw, .inr (0, [.ref n1, .ref n2, .ref n3, .ref n4, .int 0, .int 0])), (n4, .inl (cI, 24, .inl u_2))] := hD
  subst e_3
  refine lv_aload_n hx hb d_D_forget_15 rfl (lv_at hl 0 rfl) ?_
  refine va_get (D := (dC, dI)) (ci := 3) (v := .ref wi) (C := R_D) (T := T_D) (N := 7) hx hb hts in_D hown hK hP 0 rfl rfl 2 (by decide) (hts _ ew_111) (fun _ h9 => h9) rfl d_D_forget_16 ?_
  refine lv_iconst (v := 0) hx hb d_D_forget_19 (by decide) ?_
  refine ey_Sv (Wc := [(wi, .inl (cI, 24, .inl wf))]) (wr := [(d0, .inr (3, [.ref pl, .ref tp, .ref wi, .ref pg, .ref te, .ref nw, .ref nx])), (tp, .inr (2, [.ref tb, .int 0])), (nw, .inr (0, [.ref n1, .ref n2, .ref n3, .ref n4, .int 0, .int 0])), (n4, .inl (cI, 24, .inl (ep_fill 24 0 no)))]) (As := [.ref wi, .int 0]) (rest := []) ⟨hx, hb, hml, hown, hts⟩ (c_ar_fill l dC dI cI cB cJ cZ wi 24 wf 0 (by decide)) (va_cwS 2 hts (ew_S ew_356 ew_148 ew_24 g_A_fill) rfl rfl rfl (by decide +kernel) ⟨Nat.le_of_ble_eq_true rfl, Nat.le_of_ble_eq_true rfl⟩) hK hG hP hD hS hA [2] [0, 1, 3, 4] rfl rfl (by decide) (by decide) (by decide) rfl hl.1 rfl (Nat.le_of_ble_eq_true rfl) d_D_forget_20 ⟨Nat.le_of_ble_eq_true rfl, Nat.le_of_ble_eq_true rfl⟩ (fun u_5 H locs e_6 hP hD hS => ?_)
  have hP : va_P (dC, dI) vwCl [(d0, .inr (3, [.ref pl, .ref tp, .ref wi, .ref pg, .ref te, .ref nw, .ref nx])), (tp, .inr (2, [.ref tb, .int 0])), (nw, .inr (0, [.ref n1, .ref n2, .ref n3, .ref n4, .int 0, .int 0])), (n4, .inl (cI, 24, .inl (ep_fill 24 0 no))), (wi, .inl (cI, 24, .inl u_5))] H := hP
  have hD : va_D A [(d0, .inr (3, [.ref pl, .ref tp, .ref wi, .ref pg, .ref te, .ref nw, .ref nx])), (tp, .inr (2, [.ref tb, .int 0])), (nw, .inr (0, [.ref n1, .ref n2, .ref n3, .ref n4, .int 0, .int 0])), (n4, .inl (cI, 24, .inl (ep_fill 24 0 no))), (wi, .inl (cI, 24, .inl u_5))] := hD
  subst e_6
  exact ey_vret (W1 := fun (u : ep_F × ep_F) => [(d0, .inr (3, [.ref pl, .ref tp, .ref wi, .ref pg, .ref te, .ref nw, .ref nx])), (tp, .inr (2, [.ref tb, .int 0])), (nw, .inr (0, [.ref n1, .ref n2, .ref n3, .ref n4, .int 0, .int 0])), (n4, .inl (cI, 24, .inl u.1)), (wi, .inl (cI, 24, .inl u.2))]) hx hb hr hlocks hP hD hS (ep_fill 24 0 no, ep_fill 24 0 wf) [0, 1, 2, 3, 4] rfl (by decide) rfl d_D_forget_23 (Nat.le_of_ble_eq_true rfl) (Nat.le_of_ble_eq_true rfl)
set_option maxHeartbeats 4000000 in
set_option maxRecDepth 100000 in
theorem c_ed_carry_L {p : Program} {l : Launch} {e : Env} {s : State} {m : MethodId} {args : Array Value} {below : List Frame} {meth : Method} {c : Code} {dC : Nat → ClassId} {dI : Nat → Nat → Nat} {cI cB cJ cZ : ClassId} {A : Nat → Prop} {d0 pl tp wi pg te nw nx : Nat} {pb : Nat} {dn wr pw : Int32} {nb : Nat} {pf : ep_F} {tb : Nat} {ln : Int32} {nt : Nat} {tf wf pf2 : ep_F} {n1 n2 n3 n4 : Nat} {ex ch : Int32} {no : ep_F} {x1 x2 x3 x4 : Nat} {xex xch : Int32} {xla xfi xsi xno : ep_F} {x : Int32} (hnb : nb < 2 ^ 30) (hnt : nt < 2 ^ 30) (hnb4 : 4096 ≤ nb) (hnt4 : 4096 ≤ nt) (htf : sb_Fit tf) (hpf : sb_Fit pf2) (hrow : ∃ k : Nat, k ≤ 128 ∧ ep_blocks ln = nI k) (hK : va_K (dC, dI) vwCl (ey_kt cI cB cJ cZ) s) (hG : ex_G s) (C0 : ey_Cx p s m args meth c b_D_carryOut 4 R_D ew_T (some .int) A)  :
    ∀ (fuel : Nat) (i : Nat) (q : ep_P) (hi : i + fuel = 129) (hin : i ≤ 128) (hu : ep_co nb nt tf x (ep_blocks ln) fuel i q = ep_co nb nt tf x (ep_blocks ln) 129 0 (pf, dn, wr, pw)), ∀ (H : Heap) (locs : List Loc), va_P (dC, dI) vwCl [(d0, .inr (3, [.ref pl, .ref tp, .ref wi, .ref pg, .ref te, .ref nw, .ref nx])), (pl, .inr (1, [.ref pb, .int q.2.1, .int q.2.2.1, .int q.2.2.2])), (pb, .inl (cB, nb, .inl q.1)), (tp, .inr (2, [.ref tb, .int ln])), (tb, .inl (cB, nt, .inl tf)), (wi, .inl (cI, 24, .inl wf)), (pg, .inl (cB, 4096, .inl pf2)), (nw, .inr (0, [.ref n1, .ref n2, .ref n3, .ref n4, .int ex, .int ch])), (n4, .inl (cI, 24, .inl no)), (nx, .inr (0, [.ref x1, .ref x2, .ref x3, .ref x4, .int xex, .int xch])), (x1, .inl (cI, 200, .inl xla)), (x2, .inl (cI, 200, .inl xfi)), (x3, .inl (cI, 200, .inl xsi)), (x4, .inl (cI, 24, .inl xno))] H → va_D A [(d0, .inr (3, [.ref pl, .ref tp, .ref wi, .ref pg, .ref te, .ref nw, .ref nx])), (pl, .inr (1, [.ref pb, .int q.2.1, .int q.2.2.1, .int q.2.2.2])), (pb, .inl (cB, nb, .inl q.1)), (tp, .inr (2, [.ref tb, .int ln])), (tb, .inl (cB, nt, .inl tf)), (wi, .inl (cI, 24, .inl wf)), (pg, .inl (cB, 4096, .inl pf2)), (nw, .inr (0, [.ref n1, .ref n2, .ref n3, .ref n4, .int ex, .int ch])), (n4, .inl (cI, 24, .inl no)), (nx, .inr (0, [.ref x1, .ref x2, .ref x3, .ref x4, .int xex, .int xch])), (x1, .inl (cI, 200, .inl xla)), (x2, .inl (cI, 200, .inl xfi)), (x3, .inl (cI, 200, .inl xsi)), (x4, .inl (cI, 24, .inl xno))] → va_S A s.heap H locs → ∀ (ls : Array Slot), lv_has ls 4 [(0, .ref d0), (1, .int x), (2, .int (ep_blocks ln)), (3, .int (nI i))] → W p l e { frames := 3, cells := 0, slots := 0, locals := 72 } s m args below meth c H locs 0 0 (MQ below (va_Qi (fun (r : Int32) (u : (Nat × Nat) × ep_P × Int32 × ep_F × ep_F × Int32 × Int32 × ep_F) => (r, u) = ep_carry nw nx nb nt (pf, dn, wr, pw) tf ln wf pf2 ex ch no ((xla, xfi, xsi, xex), xno, xch) x) (fun u t => ey_Post (dC, dI) vwCl A ((fun (u : (Nat × Nat) × ep_P × Int32 × ep_F × ep_F × Int32 × Int32 × ep_F) => [(d0, .inr (3, [.ref pl, .ref tp, .ref wi, .ref pg, .ref te, .ref u.1.1, .ref u.1.2])), (pl, .inr (1, [.ref pb, .int u.2.1.2.1, .int u.2.1.2.2.1, .int u.2.1.2.2.2])), (pb, .inl (cB, nb, .inl u.2.1.1)), (tp, .inr (2, [.ref tb, .int u.2.2.1])), (tb, .inl (cB, nt, .inl tf)), (wi, .inl (cI, 24, .inl u.2.2.2.1)), (pg, .inl (cB, 4096, .inl u.2.2.2.2.1)), (nw, .inr (0, [.ref n1, .ref n2, .ref n3, .ref n4, .int u.2.2.2.2.2.1, .int u.2.2.2.2.2.2.1])), (n4, .inl (cI, 24, .inl u.2.2.2.2.2.2.2)), (nx, .inr (0, [.ref x1, .ref x2, .ref x3, .ref x4, .int xex, .int xch])), (x1, .inl (cI, 200, .inl xla)), (x2, .inl (cI, 200, .inl xfi)), (x3, .inl (cI, 200, .inl xsi)), (x4, .inl (cI, 24, .inl xno))]) u) t) A) args s 0 0 A) (F0 m 13 ls []) := by
  obtain ⟨hx, hb, hml, hown, hts, hr, hlocks, hA⟩ := id C0
  intro fuel
  induction fuel with
  | zero =>
    intro i q hi hin hu H locs hP hD hS ls hl
    exact absurd hi (by omega)
  | succ fuel ih =>
    intro i q hi hin hu H locs hP hD hS ls hl
    refine lv_iload_n hx hb d_D_carryOut_13 rfl (lv_at hl 3 rfl) ?_
    refine lv_iload_n hx hb d_D_carryOut_14 rfl (lv_at hl 2 rfl) ?_
    refine lv_icmp_ge (tgt := 56) hx hb d_D_carryOut_15 (by decide) (fun c_15 => ?_) (fun c_15 => ?_)
    · refine lv_aload_n hx hb d_D_carryOut_56 rfl (lv_at hl 0 rfl) ?_
      refine va_get (D := (dC, dI)) (ci := 3) (v := .ref nx) (C := R_D) (T := T_D) (N := 7) hx hb hts in_D hown hK hP 0 rfl rfl 6 (by decide) (hts _ ew_115) (fun _ h9 => h9) rfl d_D_carryOut_57 ?_
      refine lv_aload_n hx hb d_D_carryOut_60 rfl (lv_at hl 0 rfl) ?_
      refine va_get (D := (dC, dI)) (ci := 3) (v := .ref pg) (C := R_D) (T := T_D) (N := 7) hx hb hts in_D hown hK hP 0 rfl rfl 3 (by decide) (hts _ ew_112) (fun _ h9 => h9) rfl d_D_carryOut_61 ?_
      refine ey_Vv (Wc := [(nx, .inr (0, [.ref x1, .ref x2, .ref x3, .ref x4, .int xex, .int xch])), (x1, .inl (cI, 200, .inl xla)), (x2, .inl (cI, 200, .inl xfi)), (x3, .inl (cI, 200, .inl xsi)), (x4, .inl (cI, 24, .inl xno)), (pg, .inl (cB, 4096, .inl pf2))]) (wr := [(d0, .inr (3, [.ref pl, .ref tp, .ref wi, .ref pg, .ref te, .ref nw, .ref nx])), (pl, .inr (1, [.ref pb, .int q.2.1, .int q.2.2.1, .int q.2.2.2])), (pb, .inl (cB, nb, .inl q.1)), (tp, .inr (2, [.ref tb, .int ln])), (tb, .inl (cB, nt, .inl tf)), (wi, .inl (cI, 24, .inl wf)), (nw, .inr (0, [.ref n1, .ref n2, .ref n3, .ref n4, .int ex, .int ch])), (n4, .inl (cI, 24, .inl no))]) (As := [.ref pg]) (rest := []) ⟨hx, hb, hml, hown, hts⟩ (c_mf_store l dC dI cI cB cJ cZ nx x1 x2 x3 x4 xex xch xla xfi xsi xno pg 4096 pf2 (by decide) (by decide)) (cwV 1 hts (ew_V ew_357 ew_358 ew_359 ew_17 g_M_store) rfl rfl rfl (by decide +kernel) ⟨Nat.le_of_ble_eq_true rfl, Nat.le_of_ble_eq_true rfl⟩) hK hG hP hD hS hA [9, 10, 11, 12, 13, 6] [0, 1, 2, 3, 4, 5, 7, 8] rfl rfl (by decide) (by decide) (by decide) (ci := 0) (q0 := 0) rfl rfl rfl hl.1 rfl (Nat.le_of_ble_eq_true rfl) d_D_carryOut_64 ⟨Nat.le_of_ble_eq_true rfl, Nat.le_of_ble_eq_true rfl⟩ (fun u_2 H locs e_3 hP hD hS => ?_)
      have hP : va_P (dC, dI) vwCl [(d0, .inr (3, [.ref pl, .ref tp, .ref wi, .ref pg, .ref te, .ref nw, .ref nx])), (pl, .inr (1, [.ref pb, .int q.2.1, .int q.2.2.1, .int q.2.2.2])), (pb, .inl (cB, nb, .inl q.1)), (tp, .inr (2, [.ref tb, .int ln])), (tb, .inl (cB, nt, .inl tf)), (wi, .inl (cI, 24, .inl wf)), (nw, .inr (0, [.ref n1, .ref n2, .ref n3, .ref n4, .int ex, .int ch])), (n4, .inl (cI, 24, .inl no)), (nx, .inr (0, [.ref x1, .ref x2, .ref x3, .ref x4, .int xex, .int xch])), (x1, .inl (cI, 200, .inl xla)), (x2, .inl (cI, 200, .inl xfi)), (x3, .inl (cI, 200, .inl xsi)), (x4, .inl (cI, 24, .inl xno)), (pg, .inl (cB, 4096, .inl u_2))] H := hP
      have hD : va_D A [(d0, .inr (3, [.ref pl, .ref tp, .ref wi, .ref pg, .ref te, .ref nw, .ref nx])), (pl, .inr (1, [.ref pb, .int q.2.1, .int q.2.2.1, .int q.2.2.2])), (pb, .inl (cB, nb, .inl q.1)), (tp, .inr (2, [.ref tb, .int ln])), (tb, .inl (cB, nt, .inl tf)), (wi, .inl (cI, 24, .inl wf)), (nw, .inr (0, [.ref n1, .ref n2, .ref n3, .ref n4, .int ex, .int ch])), (n4, .inl (cI, 24, .inl no)), (nx, .inr (0, [.ref x1, .ref x2, .ref x3, .ref x4, .int xex, .int xch])), (x1, .inl (cI, 200, .inl xla)), (x2, .inl (cI, 200, .inl xfi)), (x3, .inl (cI, 200, .inl xsi)), (x4, .inl (cI, 24, .inl xno)), (pg, .inl (cB, 4096, .inl u_2))] := hD
      subst e_3
      refine lv_aload_n hx hb d_D_carryOut_67 rfl (lv_at hl 0 rfl) ?_
      refine va_get (D := (dC, dI)) (ci := 3) (v := .ref pl) (C := R_D) (T := T_D) (N := 7) hx hb hts in_D hown hK hP 0 rfl rfl 0 (by decide) (hts _ ew_109) (fun _ h9 => h9) rfl d_D_carryOut_68 ?_
      refine lv_aload_n hx hb d_D_carryOut_71 rfl (lv_at hl 0 rfl) ?_
      refine va_get (D := (dC, dI)) (ci := 3) (v := .ref nx) (C := R_D) (T := T_D) (N := 7) hx hb hts in_D hown hK hP 0 rfl rfl 6 (by decide) (hts _ ew_115) (fun _ h9 => h9) rfl d_D_carryOut_72 ?_
      refine va_get (D := (dC, dI)) (ci := 0) (v := .int xch) (C := R_M) (T := T_M) (N := 6) hx hb hts in_M hown hK hP 8 rfl rfl 5 (by decide) (hts _ ew_94) (fun _ h9 => h9) rfl d_D_carryOut_75 ?_
      refine lv_iconst (v := 1) hx hb d_D_carryOut_78 (by decide) ?_
      refine lv_iand hx hb d_D_carryOut_79 ?_
      refine lv_aload_n hx hb d_D_carryOut_80 rfl (lv_at hl 0 rfl) ?_
      refine va_get (D := (dC, dI)) (ci := 3) (v := .ref pg) (C := R_D) (T := T_D) (N := 7) hx hb hts in_D hown hK hP 0 rfl rfl 3 (by decide) (hts _ ew_112) (fun _ h9 => h9) rfl d_D_carryOut_81 ?_
      refine lv_iconst (v := 0) hx hb d_D_carryOut_84 (by decide) ?_
      refine ey_Vi (Wc := [(pl, .inr (1, [.ref pb, .int q.2.1, .int q.2.2.1, .int q.2.2.2])), (pb, .inl (cB, nb, .inl q.1)), (pg, .inl (cB, 4096, .inl (ep_store (xla, xfi, xsi, xex) xno xch 4096 pf2)))]) (wr := [(d0, .inr (3, [.ref pl, .ref tp, .ref wi, .ref pg, .ref te, .ref nw, .ref nx])), (tp, .inr (2, [.ref tb, .int ln])), (tb, .inl (cB, nt, .inl tf)), (wi, .inl (cI, 24, .inl wf)), (nw, .inr (0, [.ref n1, .ref n2, .ref n3, .ref n4, .int ex, .int ch])), (n4, .inl (cI, 24, .inl no)), (nx, .inr (0, [.ref x1, .ref x2, .ref x3, .ref x4, .int xex, .int xch])), (x1, .inl (cI, 200, .inl xla)), (x2, .inl (cI, 200, .inl xfi)), (x3, .inl (cI, 200, .inl xsi)), (x4, .inl (cI, 24, .inl xno))]) (As := [.int (xch &&& 1), .ref pg, .int 0]) (rest := []) ⟨hx, hb, hml, hown, hts⟩ (c_pl_write l dC dI cI cB cJ cZ pl pb q.2.1 q.2.2.1 q.2.2.2 nb q.1 (xch &&& 1) pg 4096 (ep_store (xla, xfi, xsi, xex) xno xch 4096 pf2) 0 hnb (by decide) hnb4 (by decide) (ep_store_fit hpf)) (cwV 3 hts (ew_V ew_345 ew_346 ew_347 ew_15 g_P_writeBlock) rfl rfl rfl (by decide +kernel) ⟨Nat.le_of_ble_eq_true rfl, Nat.le_of_ble_eq_true rfl⟩) hK hG hP hD hS hA [1, 2, 13] [0, 3, 4, 5, 6, 7, 8, 9, 10, 11, 12] rfl rfl (by decide) (by decide) (by decide) (ci := 1) (q0 := 0) rfl rfl rfl hl.1 rfl (Nat.le_of_ble_eq_true rfl) d_D_carryOut_85 ⟨Nat.le_of_ble_eq_true rfl, Nat.le_of_ble_eq_true rfl⟩ (fun r_4 u_5 H locs e_6 hP hD hS => ?_)
      have hP : va_P (dC, dI) vwCl [(d0, .inr (3, [.ref pl, .ref tp, .ref wi, .ref pg, .ref te, .ref nw, .ref nx])), (tp, .inr (2, [.ref tb, .int ln])), (tb, .inl (cB, nt, .inl tf)), (wi, .inl (cI, 24, .inl wf)), (nw, .inr (0, [.ref n1, .ref n2, .ref n3, .ref n4, .int ex, .int ch])), (n4, .inl (cI, 24, .inl no)), (nx, .inr (0, [.ref x1, .ref x2, .ref x3, .ref x4, .int xex, .int xch])), (x1, .inl (cI, 200, .inl xla)), (x2, .inl (cI, 200, .inl xfi)), (x3, .inl (cI, 200, .inl xsi)), (x4, .inl (cI, 24, .inl xno)), (pl, .inr (1, [.ref pb, .int u_5.2.1, .int u_5.2.2.1, .int u_5.2.2.2])), (pb, .inl (cB, nb, .inl u_5.1)), (pg, .inl (cB, 4096, .inl (ep_store (xla, xfi, xsi, xex) xno xch 4096 pf2)))] H := hP
      have hD : va_D A [(d0, .inr (3, [.ref pl, .ref tp, .ref wi, .ref pg, .ref te, .ref nw, .ref nx])), (tp, .inr (2, [.ref tb, .int ln])), (tb, .inl (cB, nt, .inl tf)), (wi, .inl (cI, 24, .inl wf)), (nw, .inr (0, [.ref n1, .ref n2, .ref n3, .ref n4, .int ex, .int ch])), (n4, .inl (cI, 24, .inl no)), (nx, .inr (0, [.ref x1, .ref x2, .ref x3, .ref x4, .int xex, .int xch])), (x1, .inl (cI, 200, .inl xla)), (x2, .inl (cI, 200, .inl xfi)), (x3, .inl (cI, 200, .inl xsi)), (x4, .inl (cI, 24, .inl xno)), (pl, .inr (1, [.ref pb, .int u_5.2.1, .int u_5.2.2.1, .int u_5.2.2.2])), (pb, .inl (cB, nb, .inl u_5.1)), (pg, .inl (cB, 4096, .inl (ep_store (xla, xfi, xsi, xex) xno xch 4096 pf2)))] := hD
      obtain ⟨rfl, rfl⟩ : r_4 = (ep_write nb (q.1, q.2.1, q.2.2.1, q.2.2.2) 4096 (ep_store (xla, xfi, xsi, xex) xno xch 4096 pf2) (xch &&& 1) 0).1 ∧ u_5 = (ep_write nb (q.1, q.2.1, q.2.2.1, q.2.2.2) 4096 (ep_store (xla, xfi, xsi, xex) xno xch 4096 pf2) (xch &&& 1) 0).2 := ⟨congrArg Prod.fst e_6, congrArg Prod.snd e_6⟩
      refine lv_if_ne (tgt := 98) hx hb d_D_carryOut_88 (by decide) (fun c_88 => ?_) (fun c_88 => ?_)
      · refine lv_aload_n hx hb d_D_carryOut_98 rfl (lv_at hl 0 rfl) ?_
        refine ey_Vv (Wc := [(d0, .inr (3, [.ref pl, .ref tp, .ref wi, .ref pg, .ref te, .ref nw, .ref nx]))]) (wr := [(tp, .inr (2, [.ref tb, .int ln])), (tb, .inl (cB, nt, .inl tf)), (wi, .inl (cI, 24, .inl wf)), (nw, .inr (0, [.ref n1, .ref n2, .ref n3, .ref n4, .int ex, .int ch])), (n4, .inl (cI, 24, .inl no)), (nx, .inr (0, [.ref x1, .ref x2, .ref x3, .ref x4, .int xex, .int xch])), (x1, .inl (cI, 200, .inl xla)), (x2, .inl (cI, 200, .inl xfi)), (x3, .inl (cI, 200, .inl xsi)), (x4, .inl (cI, 24, .inl xno)), (pl, .inr (1, [.ref pb, .int (((ep_write nb (q.1, q.2.1, q.2.2.1, q.2.2.2) 4096 (ep_store (xla, xfi, xsi, xex) xno xch 4096 pf2) (xch &&& 1) 0).2).2.1), .int (((ep_write nb (q.1, q.2.1, q.2.2.1, q.2.2.2) 4096 (ep_store (xla, xfi, xsi, xex) xno xch 4096 pf2) (xch &&& 1) 0).2).2.2.1), .int (((ep_write nb (q.1, q.2.1, q.2.2.1, q.2.2.2) 4096 (ep_store (xla, xfi, xsi, xex) xno xch 4096 pf2) (xch &&& 1) 0).2).2.2.2)])), (pb, .inl (cB, nb, .inl (((ep_write nb (q.1, q.2.1, q.2.2.1, q.2.2.2) 4096 (ep_store (xla, xfi, xsi, xex) xno xch 4096 pf2) (xch &&& 1) 0).2).1))), (pg, .inl (cB, 4096, .inl (ep_store (xla, xfi, xsi, xex) xno xch 4096 pf2)))]) (As := []) (rest := []) ⟨hx, hb, hml, hown, hts⟩ (c_ed_swap l dC dI cI cB cJ cZ d0 pl tp wi pg te nw nx) (cwV 0 hts (ew_V ew_163 ew_165 ew_0 ew_13 g_D_makeNextCount) rfl rfl rfl (by decide +kernel) ⟨Nat.le_of_ble_eq_true rfl, Nat.le_of_ble_eq_true rfl⟩) hK hG hP hD hS hA [0] [1, 2, 3, 4, 5, 6, 7, 8, 9, 10, 11, 12, 13] rfl rfl (by decide) (by decide) (by decide) (ci := 3) (q0 := 0) rfl rfl rfl hl.1 rfl (Nat.le_of_ble_eq_true rfl) d_D_carryOut_99 ⟨Nat.le_of_ble_eq_true rfl, Nat.le_of_ble_eq_true rfl⟩ (fun u_8 H locs e_9 hP hD hS => ?_)
        have hP : va_P (dC, dI) vwCl [(tp, .inr (2, [.ref tb, .int ln])), (tb, .inl (cB, nt, .inl tf)), (wi, .inl (cI, 24, .inl wf)), (nw, .inr (0, [.ref n1, .ref n2, .ref n3, .ref n4, .int ex, .int ch])), (n4, .inl (cI, 24, .inl no)), (nx, .inr (0, [.ref x1, .ref x2, .ref x3, .ref x4, .int xex, .int xch])), (x1, .inl (cI, 200, .inl xla)), (x2, .inl (cI, 200, .inl xfi)), (x3, .inl (cI, 200, .inl xsi)), (x4, .inl (cI, 24, .inl xno)), (pl, .inr (1, [.ref pb, .int (((ep_write nb (q.1, q.2.1, q.2.2.1, q.2.2.2) 4096 (ep_store (xla, xfi, xsi, xex) xno xch 4096 pf2) (xch &&& 1) 0).2).2.1), .int (((ep_write nb (q.1, q.2.1, q.2.2.1, q.2.2.2) 4096 (ep_store (xla, xfi, xsi, xex) xno xch 4096 pf2) (xch &&& 1) 0).2).2.2.1), .int (((ep_write nb (q.1, q.2.1, q.2.2.1, q.2.2.2) 4096 (ep_store (xla, xfi, xsi, xex) xno xch 4096 pf2) (xch &&& 1) 0).2).2.2.2)])), (pb, .inl (cB, nb, .inl (((ep_write nb (q.1, q.2.1, q.2.2.1, q.2.2.2) 4096 (ep_store (xla, xfi, xsi, xex) xno xch 4096 pf2) (xch &&& 1) 0).2).1))), (pg, .inl (cB, 4096, .inl (ep_store (xla, xfi, xsi, xex) xno xch 4096 pf2))), (d0, .inr (3, [.ref pl, .ref tp, .ref wi, .ref pg, .ref te, .ref nx, .ref nw]))] H := hP
        have hD : va_D A [(tp, .inr (2, [.ref tb, .int ln])), (tb, .inl (cB, nt, .inl tf)), (wi, .inl (cI, 24, .inl wf)), (nw, .inr (0, [.ref n1, .ref n2, .ref n3, .ref n4, .int ex, .int ch])), (n4, .inl (cI, 24, .inl no)), (nx, .inr (0, [.ref x1, .ref x2, .ref x3, .ref x4, .int xex, .int xch])), (x1, .inl (cI, 200, .inl xla)), (x2, .inl (cI, 200, .inl xfi)), (x3, .inl (cI, 200, .inl xsi)), (x4, .inl (cI, 24, .inl xno)), (pl, .inr (1, [.ref pb, .int (((ep_write nb (q.1, q.2.1, q.2.2.1, q.2.2.2) 4096 (ep_store (xla, xfi, xsi, xex) xno xch 4096 pf2) (xch &&& 1) 0).2).2.1), .int (((ep_write nb (q.1, q.2.1, q.2.2.1, q.2.2.2) 4096 (ep_store (xla, xfi, xsi, xex) xno xch 4096 pf2) (xch &&& 1) 0).2).2.2.1), .int (((ep_write nb (q.1, q.2.1, q.2.2.1, q.2.2.2) 4096 (ep_store (xla, xfi, xsi, xex) xno xch 4096 pf2) (xch &&& 1) 0).2).2.2.2)])), (pb, .inl (cB, nb, .inl (((ep_write nb (q.1, q.2.1, q.2.2.1, q.2.2.2) 4096 (ep_store (xla, xfi, xsi, xex) xno xch 4096 pf2) (xch &&& 1) 0).2).1))), (pg, .inl (cB, 4096, .inl (ep_store (xla, xfi, xsi, xex) xno xch 4096 pf2))), (d0, .inr (3, [.ref pl, .ref tp, .ref wi, .ref pg, .ref te, .ref nx, .ref nw]))] := hD
        refine lv_aload_n hx hb d_D_carryOut_102 rfl (lv_at hl 0 rfl) ?_
        refine va_get (D := (dC, dI)) (ci := 3) (v := .ref tp) (C := R_D) (T := T_D) (N := 7) hx hb hts in_D hown hK hP 13 rfl rfl 1 (by decide) (hts _ ew_110) (fun _ h9 => h9) rfl d_D_carryOut_103 ?_
        refine lv_iconst (v := 0) hx hb d_D_carryOut_106 (by decide) ?_
        refine va_put (D := (dC, dI)) (ci := 2) (v := .int 0) (ty := .int) (C := R_Tp) (T := T_Tp) (N := 2) hx hb hts in_Tp t_Tp t_Tp_ok n_Tp hown hK hP hD hS 0 rfl rfl 1 (by decide) (hts _ ew_71) (fun _ h9 => h9) rfl (by decide +kernel) rfl rfl (Nat.le_of_ble_eq_true rfl) d_D_carryOut_107 (fun H locs hP hD hS => ?_)
        have hP : va_P (dC, dI) vwCl [(tp, .inr (2, [.ref tb, .int 0])), (tb, .inl (cB, nt, .inl tf)), (wi, .inl (cI, 24, .inl wf)), (nw, .inr (0, [.ref n1, .ref n2, .ref n3, .ref n4, .int ex, .int ch])), (n4, .inl (cI, 24, .inl no)), (nx, .inr (0, [.ref x1, .ref x2, .ref x3, .ref x4, .int xex, .int xch])), (x1, .inl (cI, 200, .inl xla)), (x2, .inl (cI, 200, .inl xfi)), (x3, .inl (cI, 200, .inl xsi)), (x4, .inl (cI, 24, .inl xno)), (pl, .inr (1, [.ref pb, .int (((ep_write nb (q.1, q.2.1, q.2.2.1, q.2.2.2) 4096 (ep_store (xla, xfi, xsi, xex) xno xch 4096 pf2) (xch &&& 1) 0).2).2.1), .int (((ep_write nb (q.1, q.2.1, q.2.2.1, q.2.2.2) 4096 (ep_store (xla, xfi, xsi, xex) xno xch 4096 pf2) (xch &&& 1) 0).2).2.2.1), .int (((ep_write nb (q.1, q.2.1, q.2.2.1, q.2.2.2) 4096 (ep_store (xla, xfi, xsi, xex) xno xch 4096 pf2) (xch &&& 1) 0).2).2.2.2)])), (pb, .inl (cB, nb, .inl (((ep_write nb (q.1, q.2.1, q.2.2.1, q.2.2.2) 4096 (ep_store (xla, xfi, xsi, xex) xno xch 4096 pf2) (xch &&& 1) 0).2).1))), (pg, .inl (cB, 4096, .inl (ep_store (xla, xfi, xsi, xex) xno xch 4096 pf2))), (d0, .inr (3, [.ref pl, .ref tp, .ref wi, .ref pg, .ref te, .ref nx, .ref nw]))] H := hP
        have hD : va_D A [(tp, .inr (2, [.ref tb, .int 0])), (tb, .inl (cB, nt, .inl tf)), (wi, .inl (cI, 24, .inl wf)), (nw, .inr (0, [.ref n1, .ref n2, .ref n3, .ref n4, .int ex, .int ch])), (n4, .inl (cI, 24, .inl no)), (nx, .inr (0, [.ref x1, .ref x2, .ref x3, .ref x4, .int xex, .int xch])), (x1, .inl (cI, 200, .inl xla)), (x2, .inl (cI, 200, .inl xfi)), (x3, .inl (cI, 200, .inl xsi)), (x4, .inl (cI, 24, .inl xno)), (pl, .inr (1, [.ref pb, .int (((ep_write nb (q.1, q.2.1, q.2.2.1, q.2.2.2) 4096 (ep_store (xla, xfi, xsi, xex) xno xch 4096 pf2) (xch &&& 1) 0).2).2.1), .int (((ep_write nb (q.1, q.2.1, q.2.2.1, q.2.2.2) 4096 (ep_store (xla, xfi, xsi, xex) xno xch 4096 pf2) (xch &&& 1) 0).2).2.2.1), .int (((ep_write nb (q.1, q.2.1, q.2.2.1, q.2.2.2) 4096 (ep_store (xla, xfi, xsi, xex) xno xch 4096 pf2) (xch &&& 1) 0).2).2.2.2)])), (pb, .inl (cB, nb, .inl (((ep_write nb (q.1, q.2.1, q.2.2.1, q.2.2.2) 4096 (ep_store (xla, xfi, xsi, xex) xno xch 4096 pf2) (xch &&& 1) 0).2).1))), (pg, .inl (cB, 4096, .inl (ep_store (xla, xfi, xsi, xex) xno xch 4096 pf2))), (d0, .inr (3, [.ref pl, .ref tp, .ref wi, .ref pg, .ref te, .ref nx, .ref nw]))] := hD
        refine lv_iload_n hx hb d_D_carryOut_110 rfl (lv_at hl 2 rfl) ?_
        refine lv_iconst (v := 1) hx hb d_D_carryOut_111 (by decide) ?_
        refine lv_iadd hx hb d_D_carryOut_112 ?_
        exact ey_iret (W1 := fun (u : (Nat × Nat) × ep_P × Int32 × ep_F × ep_F × Int32 × Int32 × ep_F) => [(d0, .inr (3, [.ref pl, .ref tp, .ref wi, .ref pg, .ref te, .ref u.1.1, .ref u.1.2])), (pl, .inr (1, [.ref pb, .int u.2.1.2.1, .int u.2.1.2.2.1, .int u.2.1.2.2.2])), (pb, .inl (cB, nb, .inl u.2.1.1)), (tp, .inr (2, [.ref tb, .int u.2.2.1])), (tb, .inl (cB, nt, .inl tf)), (wi, .inl (cI, 24, .inl u.2.2.2.1)), (pg, .inl (cB, 4096, .inl u.2.2.2.2.1)), (nw, .inr (0, [.ref n1, .ref n2, .ref n3, .ref n4, .int u.2.2.2.2.2.1, .int u.2.2.2.2.2.2.1])), (n4, .inl (cI, 24, .inl u.2.2.2.2.2.2.2)), (nx, .inr (0, [.ref x1, .ref x2, .ref x3, .ref x4, .int xex, .int xch])), (x1, .inl (cI, 200, .inl xla)), (x2, .inl (cI, 200, .inl xfi)), (x3, .inl (cI, 200, .inl xsi)), (x4, .inl (cI, 24, .inl xno))]) hx hb hr hlocks hP hD hS ((nx, nw), (((ep_write nb (q.1, q.2.1, q.2.2.1, q.2.2.2) 4096 (ep_store (xla, xfi, xsi, xex) xno xch 4096 pf2) (xch &&& 1) 0).2).1, ((ep_write nb (q.1, q.2.1, q.2.2.1, q.2.2.2) 4096 (ep_store (xla, xfi, xsi, xex) xno xch 4096 pf2) (xch &&& 1) 0).2).2.1, ((ep_write nb (q.1, q.2.1, q.2.2.1, q.2.2.2) 4096 (ep_store (xla, xfi, xsi, xex) xno xch 4096 pf2) (xch &&& 1) 0).2).2.2.1, ((ep_write nb (q.1, q.2.1, q.2.2.1, q.2.2.2) 4096 (ep_store (xla, xfi, xsi, xex) xno xch 4096 pf2) (xch &&& 1) 0).2).2.2.2), 0, wf, ep_store (xla, xfi, xsi, xex) xno xch 4096 pf2, ex, ch, no) [13, 10, 11, 0, 1, 2, 12, 3, 4, 5, 6, 7, 8, 9] rfl (by decide) (by rw [ep_carry, ← hu, ep_co, if_pos c_15, if_pos ey_one, ep_carry2]; exact (if_pos c_88).symm) d_D_carryOut_113 (Nat.le_of_ble_eq_true rfl) (Nat.le_of_ble_eq_true rfl)
      · refine lv_aload_n hx hb d_D_carryOut_91 rfl (lv_at hl 0 rfl) ?_
        refine ey_Vv (Wc := [(d0, .inr (3, [.ref pl, .ref tp, .ref wi, .ref pg, .ref te, .ref nw, .ref nx])), (tp, .inr (2, [.ref tb, .int ln])), (nw, .inr (0, [.ref n1, .ref n2, .ref n3, .ref n4, .int ex, .int ch])), (n4, .inl (cI, 24, .inl no)), (wi, .inl (cI, 24, .inl wf))]) (wr := [(tb, .inl (cB, nt, .inl tf)), (nx, .inr (0, [.ref x1, .ref x2, .ref x3, .ref x4, .int xex, .int xch])), (x1, .inl (cI, 200, .inl xla)), (x2, .inl (cI, 200, .inl xfi)), (x3, .inl (cI, 200, .inl xsi)), (x4, .inl (cI, 24, .inl xno)), (pl, .inr (1, [.ref pb, .int (((ep_write nb (q.1, q.2.1, q.2.2.1, q.2.2.2) 4096 (ep_store (xla, xfi, xsi, xex) xno xch 4096 pf2) (xch &&& 1) 0).2).2.1), .int (((ep_write nb (q.1, q.2.1, q.2.2.1, q.2.2.2) 4096 (ep_store (xla, xfi, xsi, xex) xno xch 4096 pf2) (xch &&& 1) 0).2).2.2.1), .int (((ep_write nb (q.1, q.2.1, q.2.2.1, q.2.2.2) 4096 (ep_store (xla, xfi, xsi, xex) xno xch 4096 pf2) (xch &&& 1) 0).2).2.2.2)])), (pb, .inl (cB, nb, .inl (((ep_write nb (q.1, q.2.1, q.2.2.1, q.2.2.2) 4096 (ep_store (xla, xfi, xsi, xex) xno xch 4096 pf2) (xch &&& 1) 0).2).1))), (pg, .inl (cB, 4096, .inl (ep_store (xla, xfi, xsi, xex) xno xch 4096 pf2)))]) (As := []) (rest := []) ⟨hx, hb, hml, hown, hts⟩ (c_ed_forget l dC dI cI cB cJ cZ d0 pl tp wi pg te nw nx tb ln n1 n2 n3 n4 ex ch no wf) (cwV 0 hts (ew_V ew_351 ew_353 ew_4 ew_13 g_D_forget) rfl rfl rfl (by decide +kernel) ⟨Nat.le_of_ble_eq_true rfl, Nat.le_of_ble_eq_true rfl⟩) hK hG hP hD hS hA [0, 1, 4, 5, 3] [2, 6, 7, 8, 9, 10, 11, 12, 13] rfl rfl (by decide) (by decide) (by decide) (ci := 3) (q0 := 0) rfl rfl rfl hl.1 rfl (Nat.le_of_ble_eq_true rfl) d_D_carryOut_92 ⟨Nat.le_of_ble_eq_true rfl, Nat.le_of_ble_eq_true rfl⟩ (fun u_11 H locs e_12 hP hD hS => ?_)
        have hP : va_P (dC, dI) vwCl [(tb, .inl (cB, nt, .inl tf)), (nx, .inr (0, [.ref x1, .ref x2, .ref x3, .ref x4, .int xex, .int xch])), (x1, .inl (cI, 200, .inl xla)), (x2, .inl (cI, 200, .inl xfi)), (x3, .inl (cI, 200, .inl xsi)), (x4, .inl (cI, 24, .inl xno)), (pl, .inr (1, [.ref pb, .int (((ep_write nb (q.1, q.2.1, q.2.2.1, q.2.2.2) 4096 (ep_store (xla, xfi, xsi, xex) xno xch 4096 pf2) (xch &&& 1) 0).2).2.1), .int (((ep_write nb (q.1, q.2.1, q.2.2.1, q.2.2.2) 4096 (ep_store (xla, xfi, xsi, xex) xno xch 4096 pf2) (xch &&& 1) 0).2).2.2.1), .int (((ep_write nb (q.1, q.2.1, q.2.2.1, q.2.2.2) 4096 (ep_store (xla, xfi, xsi, xex) xno xch 4096 pf2) (xch &&& 1) 0).2).2.2.2)])), (pb, .inl (cB, nb, .inl (((ep_write nb (q.1, q.2.1, q.2.2.1, q.2.2.2) 4096 (ep_store (xla, xfi, xsi, xex) xno xch 4096 pf2) (xch &&& 1) 0).2).1))), (pg, .inl (cB, 4096, .inl (ep_store (xla, xfi, xsi, xex) xno xch 4096 pf2))), (d0, .inr (3, [.ref pl, .ref tp, .ref wi, .ref pg, .ref te, .ref nw, .ref nx])), (tp, .inr (2, [.ref tb, .int 0])), (nw, .inr (0, [.ref n1, .ref n2, .ref n3, .ref n4, .int 0, .int 0])), (n4, .inl (cI, 24, .inl u_11.1)), (wi, .inl (cI, 24, .inl u_11.2))] H := hP
        have hD : va_D A [(tb, .inl (cB, nt, .inl tf)), (nx, .inr (0, [.ref x1, .ref x2, .ref x3, .ref x4, .int xex, .int xch])), (x1, .inl (cI, 200, .inl xla)), (x2, .inl (cI, 200, .inl xfi)), (x3, .inl (cI, 200, .inl xsi)), (x4, .inl (cI, 24, .inl xno)), (pl, .inr (1, [.ref pb, .int (((ep_write nb (q.1, q.2.1, q.2.2.1, q.2.2.2) 4096 (ep_store (xla, xfi, xsi, xex) xno xch 4096 pf2) (xch &&& 1) 0).2).2.1), .int (((ep_write nb (q.1, q.2.1, q.2.2.1, q.2.2.2) 4096 (ep_store (xla, xfi, xsi, xex) xno xch 4096 pf2) (xch &&& 1) 0).2).2.2.1), .int (((ep_write nb (q.1, q.2.1, q.2.2.1, q.2.2.2) 4096 (ep_store (xla, xfi, xsi, xex) xno xch 4096 pf2) (xch &&& 1) 0).2).2.2.2)])), (pb, .inl (cB, nb, .inl (((ep_write nb (q.1, q.2.1, q.2.2.1, q.2.2.2) 4096 (ep_store (xla, xfi, xsi, xex) xno xch 4096 pf2) (xch &&& 1) 0).2).1))), (pg, .inl (cB, 4096, .inl (ep_store (xla, xfi, xsi, xex) xno xch 4096 pf2))), (d0, .inr (3, [.ref pl, .ref tp, .ref wi, .ref pg, .ref te, .ref nw, .ref nx])), (tp, .inr (2, [.ref tb, .int 0])), (nw, .inr (0, [.ref n1, .ref n2, .ref n3, .ref n4, .int 0, .int 0])), (n4, .inl (cI, 24, .inl u_11.1)), (wi, .inl (cI, 24, .inl u_11.2))] := hD
        subst e_12
        refine lv_bipush (v := (-3)) hx hb d_D_carryOut_95 (by decide) ?_
        exact ey_iret (W1 := fun (u : (Nat × Nat) × ep_P × Int32 × ep_F × ep_F × Int32 × Int32 × ep_F) => [(d0, .inr (3, [.ref pl, .ref tp, .ref wi, .ref pg, .ref te, .ref u.1.1, .ref u.1.2])), (pl, .inr (1, [.ref pb, .int u.2.1.2.1, .int u.2.1.2.2.1, .int u.2.1.2.2.2])), (pb, .inl (cB, nb, .inl u.2.1.1)), (tp, .inr (2, [.ref tb, .int u.2.2.1])), (tb, .inl (cB, nt, .inl tf)), (wi, .inl (cI, 24, .inl u.2.2.2.1)), (pg, .inl (cB, 4096, .inl u.2.2.2.2.1)), (nw, .inr (0, [.ref n1, .ref n2, .ref n3, .ref n4, .int u.2.2.2.2.2.1, .int u.2.2.2.2.2.2.1])), (n4, .inl (cI, 24, .inl u.2.2.2.2.2.2.2)), (nx, .inr (0, [.ref x1, .ref x2, .ref x3, .ref x4, .int xex, .int xch])), (x1, .inl (cI, 200, .inl xla)), (x2, .inl (cI, 200, .inl xfi)), (x3, .inl (cI, 200, .inl xsi)), (x4, .inl (cI, 24, .inl xno))]) hx hb hr hlocks hP hD hS ((nw, nx), (((ep_write nb (q.1, q.2.1, q.2.2.1, q.2.2.2) 4096 (ep_store (xla, xfi, xsi, xex) xno xch 4096 pf2) (xch &&& 1) 0).2).1, ((ep_write nb (q.1, q.2.1, q.2.2.1, q.2.2.2) 4096 (ep_store (xla, xfi, xsi, xex) xno xch 4096 pf2) (xch &&& 1) 0).2).2.1, ((ep_write nb (q.1, q.2.1, q.2.2.1, q.2.2.2) 4096 (ep_store (xla, xfi, xsi, xex) xno xch 4096 pf2) (xch &&& 1) 0).2).2.2.1, ((ep_write nb (q.1, q.2.1, q.2.2.1, q.2.2.2) 4096 (ep_store (xla, xfi, xsi, xex) xno xch 4096 pf2) (xch &&& 1) 0).2).2.2.2), 0, (ep_fill 24 0 no, ep_fill 24 0 wf).2, ep_store (xla, xfi, xsi, xex) xno xch 4096 pf2, 0, 0, (ep_fill 24 0 no, ep_fill 24 0 wf).1) [9, 6, 7, 10, 0, 13, 8, 11, 12, 1, 2, 3, 4, 5] rfl (by decide) (by rw [ep_carry, ← hu, ep_co, if_pos c_15, if_pos ey_one, ep_carry2]; exact (if_neg (fun h9 => h9 c_88)).symm) d_D_carryOut_97 (Nat.le_of_ble_eq_true rfl) (Nat.le_of_ble_eq_true rfl)
    · refine lv_aload_n hx hb d_D_carryOut_18 rfl (lv_at hl 0 rfl) ?_
      refine va_get (D := (dC, dI)) (ci := 3) (v := .ref pl) (C := R_D) (T := T_D) (N := 7) hx hb hts in_D hown hK hP 0 rfl rfl 0 (by decide) (hts _ ew_109) (fun _ h9 => h9) rfl d_D_carryOut_19 ?_
      refine lv_iload_n hx hb d_D_carryOut_22 rfl (lv_at hl 1 rfl) ?_
      refine lv_iload_n hx hb d_D_carryOut_23 rfl (lv_at hl 3 rfl) ?_
      refine lv_iadd hx hb d_D_carryOut_24 ?_
      refine lv_aload_n hx hb d_D_carryOut_25 rfl (lv_at hl 0 rfl) ?_
      refine va_get (D := (dC, dI)) (ci := 3) (v := .ref tp) (C := R_D) (T := T_D) (N := 7) hx hb hts in_D hown hK hP 0 rfl rfl 1 (by decide) (hts _ ew_110) (fun _ h9 => h9) rfl d_D_carryOut_26 ?_
      refine va_get (D := (dC, dI)) (ci := 2) (v := .ref tb) (C := R_Tp) (T := T_Tp) (N := 2) hx hb hts in_Tp hown hK hP 3 rfl rfl 0 (by decide) (hts _ ew_69) (fun _ h9 => h9) rfl d_D_carryOut_29 ?_
      refine lv_iload_n hx hb d_D_carryOut_32 rfl (lv_at hl 3 rfl) ?_
      refine lv_sipush (v := 4096) hx hb d_D_carryOut_33 (by decide) ?_
      refine lv_imul hx hb d_D_carryOut_36 ?_
      refine ey_Vi (Wc := [(pl, .inr (1, [.ref pb, .int q.2.1, .int q.2.2.1, .int q.2.2.2])), (pb, .inl (cB, nb, .inl q.1)), (tb, .inl (cB, nt, .inl tf))]) (wr := [(d0, .inr (3, [.ref pl, .ref tp, .ref wi, .ref pg, .ref te, .ref nw, .ref nx])), (tp, .inr (2, [.ref tb, .int ln])), (wi, .inl (cI, 24, .inl wf)), (pg, .inl (cB, 4096, .inl pf2)), (nw, .inr (0, [.ref n1, .ref n2, .ref n3, .ref n4, .int ex, .int ch])), (n4, .inl (cI, 24, .inl no)), (nx, .inr (0, [.ref x1, .ref x2, .ref x3, .ref x4, .int xex, .int xch])), (x1, .inl (cI, 200, .inl xla)), (x2, .inl (cI, 200, .inl xfi)), (x3, .inl (cI, 200, .inl xsi)), (x4, .inl (cI, 24, .inl xno))]) (As := [.int (x + (nI i)), .ref tb, .int ((nI i) * 4096)]) (rest := []) ⟨hx, hb, hml, hown, hts⟩ (c_pl_write l dC dI cI cB cJ cZ pl pb q.2.1 q.2.2.1 q.2.2.2 nb q.1 (x + (nI i)) tb nt tf ((nI i) * 4096) hnb hnt hnb4 hnt4 htf) (cwV 3 hts (ew_V ew_345 ew_346 ew_347 ew_15 g_P_writeBlock) rfl rfl rfl (by decide +kernel) ⟨Nat.le_of_ble_eq_true rfl, Nat.le_of_ble_eq_true rfl⟩) hK hG hP hD hS hA [1, 2, 4] [0, 3, 5, 6, 7, 8, 9, 10, 11, 12, 13] rfl rfl (by decide) (by decide) (by decide) (ci := 1) (q0 := 0) rfl rfl rfl hl.1 rfl (Nat.le_of_ble_eq_true rfl) d_D_carryOut_37 ⟨Nat.le_of_ble_eq_true rfl, Nat.le_of_ble_eq_true rfl⟩ (fun r_13 u_14 H locs e_15 hP hD hS => ?_)
      have hP : va_P (dC, dI) vwCl [(d0, .inr (3, [.ref pl, .ref tp, .ref wi, .ref pg, .ref te, .ref nw, .ref nx])), (tp, .inr (2, [.ref tb, .int ln])), (wi, .inl (cI, 24, .inl wf)), (pg, .inl (cB, 4096, .inl pf2)), (nw, .inr (0, [.ref n1, .ref n2, .ref n3, .ref n4, .int ex, .int ch])), (n4, .inl (cI, 24, .inl no)), (nx, .inr (0, [.ref x1, .ref x2, .ref x3, .ref x4, .int xex, .int xch])), (x1, .inl (cI, 200, .inl xla)), (x2, .inl (cI, 200, .inl xfi)), (x3, .inl (cI, 200, .inl xsi)), (x4, .inl (cI, 24, .inl xno)), (pl, .inr (1, [.ref pb, .int u_14.2.1, .int u_14.2.2.1, .int u_14.2.2.2])), (pb, .inl (cB, nb, .inl u_14.1)), (tb, .inl (cB, nt, .inl tf))] H := hP
      have hD : va_D A [(d0, .inr (3, [.ref pl, .ref tp, .ref wi, .ref pg, .ref te, .ref nw, .ref nx])), (tp, .inr (2, [.ref tb, .int ln])), (wi, .inl (cI, 24, .inl wf)), (pg, .inl (cB, 4096, .inl pf2)), (nw, .inr (0, [.ref n1, .ref n2, .ref n3, .ref n4, .int ex, .int ch])), (n4, .inl (cI, 24, .inl no)), (nx, .inr (0, [.ref x1, .ref x2, .ref x3, .ref x4, .int xex, .int xch])), (x1, .inl (cI, 200, .inl xla)), (x2, .inl (cI, 200, .inl xfi)), (x3, .inl (cI, 200, .inl xsi)), (x4, .inl (cI, 24, .inl xno)), (pl, .inr (1, [.ref pb, .int u_14.2.1, .int u_14.2.2.1, .int u_14.2.2.2])), (pb, .inl (cB, nb, .inl u_14.1)), (tb, .inl (cB, nt, .inl tf))] := hD
      obtain ⟨rfl, rfl⟩ : r_13 = (ep_write nb (q.1, q.2.1, q.2.2.1, q.2.2.2) nt tf (x + (nI i)) ((nI i) * 4096)).1 ∧ u_14 = (ep_write nb (q.1, q.2.1, q.2.2.1, q.2.2.2) nt tf (x + (nI i)) ((nI i) * 4096)).2 := ⟨congrArg Prod.fst e_15, congrArg Prod.snd e_15⟩
      refine lv_if_ne (tgt := 50) hx hb d_D_carryOut_40 (by decide) (fun c_40 => ?_) (fun c_40 => ?_)
      · refine lv_iinc (v := nI (i + 1)) (lv' := [(3, .int (nI (i + 1))), (0, .ref d0), (1, .int x), (2, .int (ep_blocks ln))]) hx hb d_D_carryOut_50 hl (k := 3) rfl (nI_1 i) (by decide) rfl (fun ls hl => ?_)
        refine lv_goto (tgt := 13) hx hb d_D_carryOut_53 (by decide) ?_
        exact ih (i + 1) (ep_write nb q nt tf (x + nI i) (nI i * 4096)).2 (by omega) (ey_co_i hrow (by omega) c_15) (by rw [← hu]; simp only [ep_co, ↓reduceIte, not_false_eq_true, c_15, c_40]) _ _ (ey_P (is := [0, 11, 12, 1, 13, 2, 3, 4, 5, 6, 7, 8, 9, 10]) hP rfl) (hD.sub [0, 11, 12, 1, 13, 2, 3, 4, 5, 6, 7, 8, 9, 10] (by decide) rfl) hS ls (lv_sub hl [1, 2, 3, 0] rfl)
      · refine lv_aload_n hx hb d_D_carryOut_43 rfl (lv_at hl 0 rfl) ?_
        refine ey_Vv (Wc := [(d0, .inr (3, [.ref pl, .ref tp, .ref wi, .ref pg, .ref te, .ref nw, .ref nx])), (tp, .inr (2, [.ref tb, .int ln])), (nw, .inr (0, [.ref n1, .ref n2, .ref n3, .ref n4, .int ex, .int ch])), (n4, .inl (cI, 24, .inl no)), (wi, .inl (cI, 24, .inl wf))]) (wr := [(pg, .inl (cB, 4096, .inl pf2)), (nx, .inr (0, [.ref x1, .ref x2, .ref x3, .ref x4, .int xex, .int xch])), (x1, .inl (cI, 200, .inl xla)), (x2, .inl (cI, 200, .inl xfi)), (x3, .inl (cI, 200, .inl xsi)), (x4, .inl (cI, 24, .inl xno)), (pl, .inr (1, [.ref pb, .int (((ep_write nb (q.1, q.2.1, q.2.2.1, q.2.2.2) nt tf (x + (nI i)) ((nI i) * 4096)).2).2.1), .int (((ep_write nb (q.1, q.2.1, q.2.2.1, q.2.2.2) nt tf (x + (nI i)) ((nI i) * 4096)).2).2.2.1), .int (((ep_write nb (q.1, q.2.1, q.2.2.1, q.2.2.2) nt tf (x + (nI i)) ((nI i) * 4096)).2).2.2.2)])), (pb, .inl (cB, nb, .inl (((ep_write nb (q.1, q.2.1, q.2.2.1, q.2.2.2) nt tf (x + (nI i)) ((nI i) * 4096)).2).1))), (tb, .inl (cB, nt, .inl tf))]) (As := []) (rest := []) ⟨hx, hb, hml, hown, hts⟩ (c_ed_forget l dC dI cI cB cJ cZ d0 pl tp wi pg te nw nx tb ln n1 n2 n3 n4 ex ch no wf) (cwV 0 hts (ew_V ew_351 ew_353 ew_4 ew_13 g_D_forget) rfl rfl rfl (by decide +kernel) ⟨Nat.le_of_ble_eq_true rfl, Nat.le_of_ble_eq_true rfl⟩) hK hG hP hD hS hA [0, 1, 4, 5, 2] [3, 6, 7, 8, 9, 10, 11, 12, 13] rfl rfl (by decide) (by decide) (by decide) (ci := 3) (q0 := 0) rfl rfl rfl hl.1 rfl (Nat.le_of_ble_eq_true rfl) d_D_carryOut_44 ⟨Nat.le_of_ble_eq_true rfl, Nat.le_of_ble_eq_true rfl⟩ (fun u_17 H locs e_18 hP hD hS => ?_)
        have hP : va_P (dC, dI) vwCl [(pg, .inl (cB, 4096, .inl pf2)), (nx, .inr (0, [.ref x1, .ref x2, .ref x3, .ref x4, .int xex, .int xch])), (x1, .inl (cI, 200, .inl xla)), (x2, .inl (cI, 200, .inl xfi)), (x3, .inl (cI, 200, .inl xsi)), (x4, .inl (cI, 24, .inl xno)), (pl, .inr (1, [.ref pb, .int (((ep_write nb (q.1, q.2.1, q.2.2.1, q.2.2.2) nt tf (x + (nI i)) ((nI i) * 4096)).2).2.1), .int (((ep_write nb (q.1, q.2.1, q.2.2.1, q.2.2.2) nt tf (x + (nI i)) ((nI i) * 4096)).2).2.2.1), .int (((ep_write nb (q.1, q.2.1, q.2.2.1, q.2.2.2) nt tf (x + (nI i)) ((nI i) * 4096)).2).2.2.2)])), (pb, .inl (cB, nb, .inl (((ep_write nb (q.1, q.2.1, q.2.2.1, q.2.2.2) nt tf (x + (nI i)) ((nI i) * 4096)).2).1))), (tb, .inl (cB, nt, .inl tf)), (d0, .inr (3, [.ref pl, .ref tp, .ref wi, .ref pg, .ref te, .ref nw, .ref nx])), (tp, .inr (2, [.ref tb, .int 0])), (nw, .inr (0, [.ref n1, .ref n2, .ref n3, .ref n4, .int 0, .int 0])), (n4, .inl (cI, 24, .inl u_17.1)), (wi, .inl (cI, 24, .inl u_17.2))] H := hP
        have hD : va_D A [(pg, .inl (cB, 4096, .inl pf2)), (nx, .inr (0, [.ref x1, .ref x2, .ref x3, .ref x4, .int xex, .int xch])), (x1, .inl (cI, 200, .inl xla)), (x2, .inl (cI, 200, .inl xfi)), (x3, .inl (cI, 200, .inl xsi)), (x4, .inl (cI, 24, .inl xno)), (pl, .inr (1, [.ref pb, .int (((ep_write nb (q.1, q.2.1, q.2.2.1, q.2.2.2) nt tf (x + (nI i)) ((nI i) * 4096)).2).2.1), .int (((ep_write nb (q.1, q.2.1, q.2.2.1, q.2.2.2) nt tf (x + (nI i)) ((nI i) * 4096)).2).2.2.1), .int (((ep_write nb (q.1, q.2.1, q.2.2.1, q.2.2.2) nt tf (x + (nI i)) ((nI i) * 4096)).2).2.2.2)])), (pb, .inl (cB, nb, .inl (((ep_write nb (q.1, q.2.1, q.2.2.1, q.2.2.2) nt tf (x + (nI i)) ((nI i) * 4096)).2).1))), (tb, .inl (cB, nt, .inl tf)), (d0, .inr (3, [.ref pl, .ref tp, .ref wi, .ref pg, .ref te, .ref nw, .ref nx])), (tp, .inr (2, [.ref tb, .int 0])), (nw, .inr (0, [.ref n1, .ref n2, .ref n3, .ref n4, .int 0, .int 0])), (n4, .inl (cI, 24, .inl u_17.1)), (wi, .inl (cI, 24, .inl u_17.2))] := hD
        subst e_18
        refine lv_bipush (v := (-3)) hx hb d_D_carryOut_47 (by decide) ?_
        exact ey_iret (W1 := fun (u : (Nat × Nat) × ep_P × Int32 × ep_F × ep_F × Int32 × Int32 × ep_F) => [(d0, .inr (3, [.ref pl, .ref tp, .ref wi, .ref pg, .ref te, .ref u.1.1, .ref u.1.2])), (pl, .inr (1, [.ref pb, .int u.2.1.2.1, .int u.2.1.2.2.1, .int u.2.1.2.2.2])), (pb, .inl (cB, nb, .inl u.2.1.1)), (tp, .inr (2, [.ref tb, .int u.2.2.1])), (tb, .inl (cB, nt, .inl tf)), (wi, .inl (cI, 24, .inl u.2.2.2.1)), (pg, .inl (cB, 4096, .inl u.2.2.2.2.1)), (nw, .inr (0, [.ref n1, .ref n2, .ref n3, .ref n4, .int u.2.2.2.2.2.1, .int u.2.2.2.2.2.2.1])), (n4, .inl (cI, 24, .inl u.2.2.2.2.2.2.2)), (nx, .inr (0, [.ref x1, .ref x2, .ref x3, .ref x4, .int xex, .int xch])), (x1, .inl (cI, 200, .inl xla)), (x2, .inl (cI, 200, .inl xfi)), (x3, .inl (cI, 200, .inl xsi)), (x4, .inl (cI, 24, .inl xno))]) hx hb hr hlocks hP hD hS ((nw, nx), (((ep_write nb (q.1, q.2.1, q.2.2.1, q.2.2.2) nt tf (x + (nI i)) ((nI i) * 4096)).2).1, ((ep_write nb (q.1, q.2.1, q.2.2.1, q.2.2.2) nt tf (x + (nI i)) ((nI i) * 4096)).2).2.1, ((ep_write nb (q.1, q.2.1, q.2.2.1, q.2.2.2) nt tf (x + (nI i)) ((nI i) * 4096)).2).2.2.1, ((ep_write nb (q.1, q.2.1, q.2.2.1, q.2.2.2) nt tf (x + (nI i)) ((nI i) * 4096)).2).2.2.2), 0, (ep_fill 24 0 no, ep_fill 24 0 wf).2, pf2, 0, 0, (ep_fill 24 0 no, ep_fill 24 0 wf).1) [9, 6, 7, 10, 8, 13, 0, 11, 12, 1, 2, 3, 4, 5] rfl (by decide) (by rw [ep_carry, ← hu]; simp only [ep_co, ↓reduceIte, not_true_eq_false, not_false_eq_true, c_15, c_40]) d_D_carryOut_49 (Nat.le_of_ble_eq_true rfl) (Nat.le_of_ble_eq_true rfl)
set_option maxHeartbeats 4000000 in
set_option maxRecDepth 100000 in
theorem c_ed_carry (l : Launch) (dC : Nat → ClassId) (dI : Nat → Nat → Nat) (cI cB cJ cZ : ClassId) (d0 pl tp wi pg te nw nx : Nat) (pb : Nat) (dn wr pw : Int32) (nb : Nat) (pf : ep_F) (tb : Nat) (ln : Int32) (nt : Nat) (tf wf pf2 : ep_F) (n1 n2 n3 n4 : Nat) (ex ch : Int32) (no : ep_F) (x1 x2 x3 x4 : Nat) (xex xch : Int32) (xla xfi xsi xno : ep_F) (x : Int32) (hnb : nb < 2 ^ 30) (hnt : nt < 2 ^ 30) (hnb4 : 4096 ≤ nb) (hnt4 : 4096 ≤ nt) (htf : sb_Fit tf) (hpf : sb_Fit pf2) (hrow : ∃ k : Nat, k ≤ 128 ∧ ep_blocks ln = nI k) : ey_Mi l y_D_carryOut w_D_carryOut { frames := 3, cells := 0, slots := 0, locals := 72 } (dC, dI) vwCl (ey_kt cI cB cJ cZ) [.ref d0, .int x] [(d0, .inr (3, [.ref pl, .ref tp, .ref wi, .ref pg, .ref te, .ref nw, .ref nx])), (pl, .inr (1, [.ref pb, .int dn, .int wr, .int pw])), (pb, .inl (cB, nb, .inl pf)), (tp, .inr (2, [.ref tb, .int ln])), (tb, .inl (cB, nt, .inl tf)), (wi, .inl (cI, 24, .inl wf)), (pg, .inl (cB, 4096, .inl pf2)), (nw, .inr (0, [.ref n1, .ref n2, .ref n3, .ref n4, .int ex, .int ch])), (n4, .inl (cI, 24, .inl no)), (nx, .inr (0, [.ref x1, .ref x2, .ref x3, .ref x4, .int xex, .int xch])), (x1, .inl (cI, 200, .inl xla)), (x2, .inl (cI, 200, .inl xfi)), (x3, .inl (cI, 200, .inl xsi)), (x4, .inl (cI, 24, .inl xno))] (fun (r : Int32) (u : (Nat × Nat) × ep_P × Int32 × ep_F × ep_F × Int32 × Int32 × ep_F) => (r, u) = ep_carry nw nx nb nt (pf, dn, wr, pw) tf ln wf pf2 ex ch no ((xla, xfi, xsi, xex), xno, xch) x) (fun (u : (Nat × Nat) × ep_P × Int32 × ep_F × ep_F × Int32 × Int32 × ep_F) => [(d0, .inr (3, [.ref pl, .ref tp, .ref wi, .ref pg, .ref te, .ref u.1.1, .ref u.1.2])), (pl, .inr (1, [.ref pb, .int u.2.1.2.1, .int u.2.1.2.2.1, .int u.2.1.2.2.2])), (pb, .inl (cB, nb, .inl u.2.1.1)), (tp, .inr (2, [.ref tb, .int u.2.2.1])), (tb, .inl (cB, nt, .inl tf)), (wi, .inl (cI, 24, .inl u.2.2.2.1)), (pg, .inl (cB, 4096, .inl u.2.2.2.2.1)), (nw, .inr (0, [.ref n1, .ref n2, .ref n3, .ref n4, .int u.2.2.2.2.2.1, .int u.2.2.2.2.2.2.1])), (n4, .inl (cI, 24, .inl u.2.2.2.2.2.2.2)), (nx, .inr (0, [.ref x1, .ref x2, .ref x3, .ref x4, .int xex, .int xch])), (x1, .inl (cI, 200, .inl xla)), (x2, .inl (cI, 200, .inl xfi)), (x3, .inl (cI, 200, .inl xsi)), (x4, .inl (cI, 24, .inl xno))]) 0 0 := by
  intro sz
  refine Met.ofW (cc := b_D_carryOut) (maxL := 4) (ret := (some .int)) (by decide) rfl ?_
  intro p e s m args below meth c s₁ B hml hv
  obtain ⟨rfl, hsz, hP, hK, hG, hD0⟩ := hv
  have hx := B.exec
  have hb := B.bytes
  have hr := B.returns
  have hts := fun (w : Cond) (h : w ∈ ew_T) => atoms_spec (ws := w_D_carryOut) B.pre w (List.mem_cons_of_mem _ h)
  have hown : s.vm.findClass R_D = some m.cls := findClass_of_methodNamed B.named
  have hlocks := B.notSynchronized
  subst hsz
  have hD := hD0.self (sz := s.heap.size)
  generalize hAe : va_A [(d0, .inr (3, [.ref pl, .ref tp, .ref wi, .ref pg, .ref te, .ref nw, .ref nx])), (pl, .inr (1, [.ref pb, .int dn, .int wr, .int pw])), (pb, .inl (cB, nb, .inl pf)), (tp, .inr (2, [.ref tb, .int ln])), (tb, .inl (cB, nt, .inl tf)), (wi, .inl (cI, 24, .inl wf)), (pg, .inl (cB, 4096, .inl pf2)), (nw, .inr (0, [.ref n1, .ref n2, .ref n3, .ref n4, .int ex, .int ch])), (n4, .inl (cI, 24, .inl no)), (nx, .inr (0, [.ref x1, .ref x2, .ref x3, .ref x4, .int xex, .int xch])), (x1, .inl (cI, 200, .inl xla)), (x2, .inl (cI, 200, .inl xfi)), (x3, .inl (cI, 200, .inl xsi)), (x4, .inl (cI, 24, .inl xno))] s.heap.size = A at hD ⊢
  have hA : ∀ q : Nat, s.heap.size ≤ q → A q := fun q h => by rw [← hAe]; exact Or.inr h
  have hS : va_S A s.heap s.heap [] := va_S.rf
  have hP : va_P (dC, dI) vwCl [(d0, .inr (3, [.ref pl, .ref tp, .ref wi, .ref pg, .ref te, .ref nw, .ref nx])), (pl, .inr (1, [.ref pb, .int dn, .int wr, .int pw])), (pb, .inl (cB, nb, .inl pf)), (tp, .inr (2, [.ref tb, .int ln])), (tb, .inl (cB, nt, .inl tf)), (wi, .inl (cI, 24, .inl wf)), (pg, .inl (cB, 4096, .inl pf2)), (nw, .inr (0, [.ref n1, .ref n2, .ref n3, .ref n4, .int ex, .int ch])), (n4, .inl (cI, 24, .inl no)), (nx, .inr (0, [.ref x1, .ref x2, .ref x3, .ref x4, .int xex, .int xch])), (x1, .inl (cI, 200, .inl xla)), (x2, .inl (cI, 200, .inl xfi)), (x3, .inl (cI, 200, .inl xsi)), (x4, .inl (cI, 24, .inl xno))] s.heap := hP
  have hl := lv_entry ([.ref d0, .int x]) (n := 4) (Nat.le_of_ble_eq_true rfl)
  rw [lg_entry_eq]
  generalize (lg_sl ([.ref d0, .int x]) ++ List.replicate (4 - (lg_sl ([.ref d0, .int x])).length) Slot.unset).toArray = ls at hl ⊢
  have hl : lv_has ls 4 [(0, .ref d0), (1, .int x)] := hl
  have C0 : ey_Cx p s m [.ref d0, .int x].toArray meth c b_D_carryOut 4 R_D ew_T (some .int) A := ⟨hx, hb, hml, hown, hts, hr, hlocks, hA⟩
  refine lv_aload_n hx hb d_D_carryOut_0 rfl (lv_at hl 0 rfl) ?_
  refine va_get (D := (dC, dI)) (ci := 3) (v := .ref tp) (C := R_D) (T := T_D) (N := 7) hx hb hts in_D hown hK hP 0 rfl rfl 1 (by decide) (hts _ ew_110) (fun _ h9 => h9) rfl d_D_carryOut_1 ?_
  refine va_get (D := (dC, dI)) (ci := 2) (v := .int ln) (C := R_Tp) (T := T_Tp) (N := 2) hx hb hts in_Tp hown hK hP 3 rfl rfl 1 (by decide) (hts _ ew_71) (fun _ h9 => h9) rfl d_D_carryOut_4 ?_
  refine ey_Si (Wc := []) (wr := [(d0, .inr (3, [.ref pl, .ref tp, .ref wi, .ref pg, .ref te, .ref nw, .ref nx])), (pl, .inr (1, [.ref pb, .int dn, .int wr, .int pw])), (pb, .inl (cB, nb, .inl pf)), (tp, .inr (2, [.ref tb, .int ln])), (tb, .inl (cB, nt, .inl tf)), (wi, .inl (cI, 24, .inl wf)), (pg, .inl (cB, 4096, .inl pf2)), (nw, .inr (0, [.ref n1, .ref n2, .ref n3, .ref n4, .int ex, .int ch])), (n4, .inl (cI, 24, .inl no)), (nx, .inr (0, [.ref x1, .ref x2, .ref x3, .ref x4, .int xex, .int xch])), (x1, .inl (cI, 200, .inl xla)), (x2, .inl (cI, 200, .inl xfi)), (x3, .inl (cI, 200, .inl xsi)), (x4, .inl (cI, 24, .inl xno))]) (As := [.int ln]) (rest := []) ⟨hx, hb, hml, hown, hts⟩ (c_ed_blocks l dC dI cI cB cJ cZ ln) (va_cwS 1 hts (ew_S ew_327 ew_328 ew_13 g_D_blocksFor) rfl rfl rfl (by decide +kernel) ⟨Nat.le_of_ble_eq_true rfl, Nat.le_of_ble_eq_true rfl⟩) hK hG hP hD hS hA [] [0, 1, 2, 3, 4, 5, 6, 7, 8, 9, 10, 11, 12, 13] rfl rfl (by decide) (by decide) (by decide) rfl hl.1 rfl (Nat.le_of_ble_eq_true rfl) d_D_carryOut_7 ⟨Nat.le_of_ble_eq_true rfl, Nat.le_of_ble_eq_true rfl⟩ (fun r_1 u_2 H locs e_3 hP hD hS => ?_)
  have hP : va_P (dC, dI) vwCl [(d0, .inr (3, [.ref pl, .ref tp, .ref wi, .ref pg, .ref te, .ref nw, .ref nx])), (pl, .inr (1, [.ref pb, .int dn, .int wr, .int pw])), (pb, .inl (cB, nb, .inl pf)), (tp, .inr (2, [.ref tb, .int ln])), (tb, .inl (cB, nt, .inl tf)), (wi, .inl (cI, 24, .inl wf)), (pg, .inl (cB, 4096, .inl pf2)), (nw, .inr (0, [.ref n1, .ref n2, .ref n3, .ref n4, .int ex, .int ch])), (n4, .inl (cI, 24, .inl no)), (nx, .inr (0, [.ref x1, .ref x2, .ref x3, .ref x4, .int xex, .int xch])), (x1, .inl (cI, 200, .inl xla)), (x2, .inl (cI, 200, .inl xfi)), (x3, .inl (cI, 200, .inl xsi)), (x4, .inl (cI, 24, .inl xno))] H := hP
  have hD : va_D A [(d0, .inr (3, [.ref pl, .ref tp, .ref wi, .ref pg, .ref te, .ref nw, .ref nx])), (pl, .inr (1, [.ref pb, .int dn, .int wr, .int pw])), (pb, .inl (cB, nb, .inl pf)), (tp, .inr (2, [.ref tb, .int ln])), (tb, .inl (cB, nt, .inl tf)), (wi, .inl (cI, 24, .inl wf)), (pg, .inl (cB, 4096, .inl pf2)), (nw, .inr (0, [.ref n1, .ref n2, .ref n3, .ref n4, .int ex, .int ch])), (n4, .inl (cI, 24, .inl no)), (nx, .inr (0, [.ref x1, .ref x2, .ref x3, .ref x4, .int xex, .int xch])), (x1, .inl (cI, 200, .inl xla)), (x2, .inl (cI, 200, .inl xfi)), (x3, .inl (cI, 200, .inl xsi)), (x4, .inl (cI, 24, .inl xno))] := hD
  subst e_3
  refine lv_istore_n (lv' := [(2, .int (ep_blocks ln)), (0, .ref d0), (1, .int x)]) hx hb d_D_carryOut_10 rfl hl (by decide) rfl (fun ls hl => ?_)
  refine lv_iconst (v := nI 0) hx hb d_D_carryOut_11 (by decide) ?_
  refine lv_istore_n (lv' := [(3, .int (nI 0)), (2, .int (ep_blocks ln)), (0, .ref d0), (1, .int x)]) hx hb d_D_carryOut_12 rfl hl (by decide) rfl (fun ls hl => ?_)
  exact c_ed_carry_L (d0 := d0) (pl := pl) (tp := tp) (wi := wi) (pg := pg) (te := te) (nw := nw) (nx := nx) (pb := pb) (dn := dn) (wr := wr) (pw := pw) (nb := nb) (pf := pf) (tb := tb) (ln := ln) (nt := nt) (tf := tf) (wf := wf) (pf2 := pf2) (n1 := n1) (n2 := n2) (n3 := n3) (n4 := n4) (ex := ex) (ch := ch) (no := no) (x1 := x1) (x2 := x2) (x3 := x3) (x4 := x4) (xex := xex) (xch := xch) (xla := xla) (xfi := xfi) (xsi := xsi) (xno := xno) (x := x) hnb hnt hnb4 hnt4 htf hpf hrow hK hG C0 129 0 (pf, dn, wr, pw) rfl (by omega) rfl _ _ hP hD hS ls (lv_sub hl [2, 3, 1, 0] rfl)
end
section
set_option maxHeartbeats 4000000 in
set_option maxRecDepth 100000 in
theorem c_ed_drop (l : Launch) (dC : Nat → ClassId) (dI : Nat → Nat → Nat) (cI cB cJ cZ : ClassId) (hl9 : l.stackTraces = false) (d0 pl tp wi pg te nw nx : Nat) (pb : Nat) (dn wr pw : Int32) (tb : Nat) (ln : Int32) : ey_Xi l y_D_drop w_D_drop { frames := 6, cells := 1, slots := 6, locals := 90 } (dC, dI) vwCl (ey_kt cI cB cJ cZ) [.ref d0] [(d0, .inr (3, [.ref pl, .ref tp, .ref wi, .ref pg, .ref te, .ref nw, .ref nx])), (pl, .inr (1, [.ref pb, .int dn, .int wr, .int pw])), (tp, .inr (2, [.ref tb, .int ln]))] (fun (r : Int32) (u : Unit) => ep_kdown dn = 0 ∧ r = ln) (fun (u : Unit) => [(d0, .inr (3, [.ref pl, .ref tp, .ref wi, .ref pg, .ref te, .ref nw, .ref nx])), (pl, .inr (1, [.ref pb, .int dn, .int wr, .int pw])), (tp, .inr (2, [.ref tb, .int 0]))]) (fun E => (E = "java/lang/IllegalArgumentException" ∧ ep_kdown dn = 1) ∨ (E = "java/lang/IllegalStateException" ∧ ep_kdown dn = 2)) 1 6 := by
  intro sz
  refine vx_ofW (cc := b_D_drop) (maxL := 2) (ret := (some .int)) (by decide) rfl ?_
  intro p e s m args below meth c s₁ B hml hno hv
  obtain ⟨rfl, hZ, hsz, hP, hK, hG, hD0⟩ := hv
  have hx := B.exec
  have hb := B.bytes
  have hr := B.returns
  have hts := fun (w : Cond) (h : w ∈ ew_T) => atoms_spec (ws := w_D_drop) B.pre w (List.mem_cons_of_mem _ h)
  have hown : s.vm.findClass R_D = some m.cls := findClass_of_methodNamed B.named
  have hlocks := B.notSynchronized
  subst hsz
  have hD := hD0.self (sz := s.heap.size)
  generalize hAe : va_A [(d0, .inr (3, [.ref pl, .ref tp, .ref wi, .ref pg, .ref te, .ref nw, .ref nx])), (pl, .inr (1, [.ref pb, .int dn, .int wr, .int pw])), (tp, .inr (2, [.ref tb, .int ln]))] s.heap.size = A at hD hZ ⊢
  have hA : ∀ q : Nat, s.heap.size ≤ q → A q := fun q h => by rw [← hAe]; exact Or.inr h
  have hS : va_S A s.heap s.heap [] := va_S.rf
  have hP : va_P (dC, dI) vwCl [(d0, .inr (3, [.ref pl, .ref tp, .ref wi, .ref pg, .ref te, .ref nw, .ref nx])), (pl, .inr (1, [.ref pb, .int dn, .int wr, .int pw])), (tp, .inr (2, [.ref tb, .int ln]))] s.heap := hP
  have hl := lv_entry ([.ref d0]) (n := 2) (Nat.le_of_ble_eq_true rfl)
  rw [lg_entry_eq]
  generalize (lg_sl ([.ref d0]) ++ List.replicate (2 - (lg_sl ([.ref d0])).length) Slot.unset).toArray = ls at hl ⊢
  have hl : lv_has ls 2 [(0, .ref d0)] := hl
  refine lv_aload_n hx hb d_D_drop_0 rfl (lv_at hl 0 rfl) ?_
  refine va_get (D := (dC, dI)) (ci := 3) (v := .ref pl) (C := R_D) (T := T_D) (N := 7) hx hb hts in_D hown hK hP 0 rfl rfl 0 (by decide) (hts _ ew_109) (fun _ h9 => h9) rfl d_D_drop_1 ?_
  refine va_get (D := (dC, dI)) (ci := 1) (v := .int dn) (C := R_P) (T := T_P) (N := 4) hx hb hts in_P hown hK hP 1 rfl rfl 1 (by decide) (hts _ ew_48) (fun _ h9 => h9) rfl d_D_drop_4 ?_
  refine lv_if_eq (tgt := 20) hx hb d_D_drop_7 (by decide) (fun c_7 => ?_) (fun c_7 => ?_)
  · refine lv_aload_n hx hb d_D_drop_20 rfl (lv_at hl 0 rfl) ?_
    refine va_get (D := (dC, dI)) (ci := 3) (v := .ref tp) (C := R_D) (T := T_D) (N := 7) hx hb hts in_D hown hK hP 0 rfl rfl 1 (by decide) (hts _ ew_110) (fun _ h9 => h9) rfl d_D_drop_21 ?_
    refine va_get (D := (dC, dI)) (ci := 2) (v := .int ln) (C := R_Tp) (T := T_Tp) (N := 2) hx hb hts in_Tp hown hK hP 2 rfl rfl 1 (by decide) (hts _ ew_71) (fun _ h9 => h9) rfl d_D_drop_24 ?_
    refine lv_istore_n (lv' := [(1, .int ln), (0, .ref d0)]) hx hb d_D_drop_27 rfl hl (by decide) rfl (fun ls hl => ?_)
    refine lv_aload_n hx hb d_D_drop_28 rfl (lv_at hl 1 rfl) ?_
    refine va_get (D := (dC, dI)) (ci := 3) (v := .ref tp) (C := R_D) (T := T_D) (N := 7) hx hb hts in_D hown hK hP 0 rfl rfl 1 (by decide) (hts _ ew_110) (fun _ h9 => h9) rfl d_D_drop_29 ?_
    refine lv_iconst (v := 0) hx hb d_D_drop_32 (by decide) ?_
    refine va_put (D := (dC, dI)) (ci := 2) (v := .int 0) (ty := .int) (C := R_Tp) (T := T_Tp) (N := 2) hx hb hts in_Tp t_Tp t_Tp_ok n_Tp hown hK hP hD hS 2 rfl rfl 1 (by decide) (hts _ ew_71) (fun _ h9 => h9) rfl (by decide +kernel) rfl rfl (Nat.le_of_ble_eq_true rfl) d_D_drop_33 (fun H locs hP hD hS => ?_)
    have hP : va_P (dC, dI) vwCl [(d0, .inr (3, [.ref pl, .ref tp, .ref wi, .ref pg, .ref te, .ref nw, .ref nx])), (pl, .inr (1, [.ref pb, .int dn, .int wr, .int pw])), (tp, .inr (2, [.ref tb, .int 0]))] H := hP
    have hD : va_D A [(d0, .inr (3, [.ref pl, .ref tp, .ref wi, .ref pg, .ref te, .ref nw, .ref nx])), (pl, .inr (1, [.ref pb, .int dn, .int wr, .int pw])), (tp, .inr (2, [.ref tb, .int 0]))] := hD
    refine lv_iload_n hx hb d_D_drop_36 rfl (lv_at hl 0 rfl) ?_
    refine vx_ret ?_
    exact ey_iret (W1 := fun (u : Unit) => [(d0, .inr (3, [.ref pl, .ref tp, .ref wi, .ref pg, .ref te, .ref nw, .ref nx])), (pl, .inr (1, [.ref pb, .int dn, .int wr, .int pw])), (tp, .inr (2, [.ref tb, .int 0]))]) hx hb hr hlocks hP hD hS () [0, 1, 2] rfl (by decide) (⟨by simp only [ep_kdown, ↓reduceIte, not_true_eq_false, not_false_eq_true, c_7], rfl⟩) d_D_drop_37 (Nat.le_of_ble_eq_true rfl) (Nat.le_of_ble_eq_true rfl)
  · have hP9 : va_P (dC, dI) vwCl [(d0, .inr (3, [.ref pl, .ref tp, .ref wi, .ref pg, .ref te, .ref nw, .ref nx])), (pl, .inr (1, [.ref pb, .int dn, .int wr, .int pw])), (tp, .inr (2, [.ref tb, .int ln]))] _ := ey_P (is := [0, 1, 2]) hP rfl
    have hD9 : va_D A [(d0, .inr (3, [.ref pl, .ref tp, .ref wi, .ref pg, .ref te, .ref nw, .ref nx])), (pl, .inr (1, [.ref pb, .int dn, .int wr, .int pw])), (tp, .inr (2, [.ref tb, .int ln]))] := hD.sub [0, 1, 2] (by decide) rfl
    obtain ⟨sa9, hstr9⟩ := ex_str (k := 86) (t := "the store is down") hG (by decide +kernel)
    exact vx_throwS (names := ["java/lang/RuntimeException", "java/lang/Exception"]) hx hb hl9 hown (by decide +kernel) (by decide +kernel) (hts _ ew_260) (hts _ ew_23) hstr9 (ex_hatS hG hts) ex_goodS hZ.1 hZ.2 hS (by rw [hml]; exact hl.1) d_D_drop_10 d_D_drop_13 d_D_drop_14 d_D_drop_16 d_D_drop_19 (fun x h9 => (hno x h9).elim) (Nat.le_of_ble_eq_true rfl) (Nat.le_of_ble_eq_true rfl) (Nat.le_of_ble_eq_true rfl) (Nat.le_of_ble_eq_true rfl) hlocks (fun t _ hz hk => ⟨(), trivial, ⟨Or.inr ⟨rfl, by simp only [ep_kdown, ↓reduceIte, not_true_eq_false, not_false_eq_true, c_7]⟩, (ey_keptX hP9 hD9 hS hz hk).1⟩, (ey_keptX hP9 hD9 hS hz hk).2⟩) hS.2.2 (Nat.le_of_ble_eq_true rfl) (Nat.le_of_ble_eq_true rfl)
set_option maxHeartbeats 4000000 in
set_option maxRecDepth 100000 in
theorem c_ed_wish (l : Launch) (dC : Nat → ClassId) (dI : Nat → Nat → Nat) (cI cB cJ cZ : ClassId) (hl9 : l.stackTraces = false) (d0 pl tp wi pg te nw nx : Nat) (pb : Nat) (dn wr pw : Int32) (wf : ep_F) (x y : Int32) : ey_Xi l y_D_wish w_D_wish { frames := 6, cells := 1, slots := 6, locals := 90 } (dC, dI) vwCl (ey_kt cI cB cJ cZ) [.ref d0, .int x, .int y] [(d0, .inr (3, [.ref pl, .ref tp, .ref wi, .ref pg, .ref te, .ref nw, .ref nx])), (pl, .inr (1, [.ref pb, .int dn, .int wr, .int pw])), (wi, .inl (cI, 24, .inl wf))] (fun (r : Int32) (u : ep_F) => ep_knote dn x = 0 ∧ r = wf x.toNatClampNeg ∧ u = upd wf x.toNatClampNeg y) (fun (u : ep_F) => [(d0, .inr (3, [.ref pl, .ref tp, .ref wi, .ref pg, .ref te, .ref nw, .ref nx])), (pl, .inr (1, [.ref pb, .int dn, .int wr, .int pw])), (wi, .inl (cI, 24, .inl u))]) (fun E => (E = "java/lang/IllegalArgumentException" ∧ ep_knote dn x = 1) ∨ (E = "java/lang/IllegalStateException" ∧ ep_knote dn x = 2)) 1 6 := by
  intro sz
  refine vx_ofW (cc := b_D_wish) (maxL := 4) (ret := (some .int)) (by decide) rfl ?_
  intro p e s m args below meth c s₁ B hml hno hv
  obtain ⟨rfl, hZ, hsz, hP, hK, hG, hD0⟩ := hv
  have hx := B.exec
  have hb := B.bytes
  have hr := B.returns
  have hts := fun (w : Cond) (h : w ∈ ew_T) => atoms_spec (ws := w_D_wish) B.pre w (List.mem_cons_of_mem _ h)
  have hown : s.vm.findClass R_D = some m.cls := findClass_of_methodNamed B.named
  have hlocks := B.notSynchronized
  subst hsz
  have hD := hD0.self (sz := s.heap.size)
  generalize hAe : va_A [(d0, .inr (3, [.ref pl, .ref tp, .ref wi, .ref pg, .ref te, .ref nw, .ref nx])), (pl, .inr (1, [.ref pb, .int dn, .int wr, .int pw])), (wi, .inl (cI, 24, .inl wf))] s.heap.size = A at hD hZ ⊢
  have hA : ∀ q : Nat, s.heap.size ≤ q → A q := fun q h => by rw [← hAe]; exact Or.inr h
  have hS : va_S A s.heap s.heap [] := va_S.rf
  have hP : va_P (dC, dI) vwCl [(d0, .inr (3, [.ref pl, .ref tp, .ref wi, .ref pg, .ref te, .ref nw, .ref nx])), (pl, .inr (1, [.ref pb, .int dn, .int wr, .int pw])), (wi, .inl (cI, 24, .inl wf))] s.heap := hP
  have hl := lv_entry ([.ref d0, .int x, .int y]) (n := 4) (Nat.le_of_ble_eq_true rfl)
  rw [lg_entry_eq]
  generalize (lg_sl ([.ref d0, .int x, .int y]) ++ List.replicate (4 - (lg_sl ([.ref d0, .int x, .int y])).length) Slot.unset).toArray = ls at hl ⊢
  have hl : lv_has ls 4 [(0, .ref d0), (1, .int x), (2, .int y)] := hl
  refine lv_iload_n hx hb d_D_wish_0 rfl (lv_at hl 1 rfl) ?_
  refine lv_if_lt (tgt := 10) hx hb d_D_wish_1 (by decide) (fun c_1 => ?_) (fun c_1 => ?_)
  · have hP9 : va_P (dC, dI) vwCl [(d0, .inr (3, [.ref pl, .ref tp, .ref wi, .ref pg, .ref te, .ref nw, .ref nx])), (pl, .inr (1, [.ref pb, .int dn, .int wr, .int pw])), (wi, .inl (cI, 24, .inl wf))] _ := ey_P (is := [0, 1, 2]) hP rfl
    have hD9 : va_D A [(d0, .inr (3, [.ref pl, .ref tp, .ref wi, .ref pg, .ref te, .ref nw, .ref nx])), (pl, .inr (1, [.ref pb, .int dn, .int wr, .int pw])), (wi, .inl (cI, 24, .inl wf))] := hD.sub [0, 1, 2] (by decide) rfl
    obtain ⟨sa9, hstr9⟩ := ex_str (k := 88) (t := "i is not 0 .. 23") hG (by decide +kernel)
    exact vx_throwS (names := ["java/lang/RuntimeException", "java/lang/Exception"]) hx hb hl9 hown (by decide +kernel) (by decide +kernel) (hts _ ew_190) (hts _ ew_22) hstr9 (ex_hatA hG hts) ex_goodA hZ.1 hZ.2 hS (by rw [hml]; exact hl.1) d_D_wish_10 d_D_wish_13 d_D_wish_14 d_D_wish_16 d_D_wish_19 (fun x h9 => (hno x h9).elim) (Nat.le_of_ble_eq_true rfl) (Nat.le_of_ble_eq_true rfl) (Nat.le_of_ble_eq_true rfl) (Nat.le_of_ble_eq_true rfl) hlocks (fun t _ hz hk => ⟨(), trivial, ⟨Or.inl ⟨rfl, by simp only [ep_knote, ↓reduceIte, not_true_eq_false, not_false_eq_true, c_1]⟩, (ey_keptX hP9 hD9 hS hz hk).1⟩, (ey_keptX hP9 hD9 hS hz hk).2⟩) hS.2.2 (Nat.le_of_ble_eq_true rfl) (Nat.le_of_ble_eq_true rfl)
  · refine lv_iload_n hx hb d_D_wish_4 rfl (lv_at hl 1 rfl) ?_
    refine lv_bipush (v := 24) hx hb d_D_wish_5 (by decide) ?_
    refine lv_icmp_lt (tgt := 20) hx hb d_D_wish_7 (by decide) (fun c_7 => ?_) (fun c_7 => ?_)
    · refine lv_aload_n hx hb d_D_wish_20 rfl (lv_at hl 0 rfl) ?_
      refine va_get (D := (dC, dI)) (ci := 3) (v := .ref pl) (C := R_D) (T := T_D) (N := 7) hx hb hts in_D hown hK hP 0 rfl rfl 0 (by decide) (hts _ ew_109) (fun _ h9 => h9) rfl d_D_wish_21 ?_
      refine va_get (D := (dC, dI)) (ci := 1) (v := .int dn) (C := R_P) (T := T_P) (N := 4) hx hb hts in_P hown hK hP 1 rfl rfl 1 (by decide) (hts _ ew_48) (fun _ h9 => h9) rfl d_D_wish_24 ?_
      refine lv_if_eq (tgt := 40) hx hb d_D_wish_27 (by decide) (fun c_27 => ?_) (fun c_27 => ?_)
      · refine lv_aload_n hx hb d_D_wish_40 rfl (lv_at hl 0 rfl) ?_
        refine va_get (D := (dC, dI)) (ci := 3) (v := .ref wi) (C := R_D) (T := T_D) (N := 7) hx hb hts in_D hown hK hP 0 rfl rfl 2 (by decide) (hts _ ew_111) (fun _ h9 => h9) rfl d_D_wish_41 ?_
        refine lv_iload_n hx hb d_D_wish_44 rfl (lv_at hl 1 rfl) ?_
        refine va_iald hx hb hK hP 2 0 rfl rfl (ey_inlt (n := 24) ⟨rfl, by decide⟩ c_1 c_7) d_D_wish_45 ?_
        refine lv_istore_n (lv' := [(3, .int (wf x.toNatClampNeg)), (0, .ref d0), (1, .int x), (2, .int y)]) hx hb d_D_wish_46 rfl hl (by decide) rfl (fun ls hl => ?_)
        refine lv_aload_n hx hb d_D_wish_47 rfl (lv_at hl 1 rfl) ?_
        refine va_get (D := (dC, dI)) (ci := 3) (v := .ref wi) (C := R_D) (T := T_D) (N := 7) hx hb hts in_D hown hK hP 0 rfl rfl 2 (by decide) (hts _ ew_111) (fun _ h9 => h9) rfl d_D_wish_48 ?_
        refine lv_iload_n hx hb d_D_wish_51 rfl (lv_at hl 2 rfl) ?_
        refine lv_iload_n hx hb d_D_wish_52 rfl (lv_at hl 3 rfl) ?_
        refine va_iast hx hb hK hP hD hS 2 0 rfl rfl (ey_inlt (n := 24) ⟨rfl, by decide⟩ c_1 c_7) d_D_wish_53 (fun H locs hP hD hS => ?_)
        have hP : va_P (dC, dI) vwCl [(d0, .inr (3, [.ref pl, .ref tp, .ref wi, .ref pg, .ref te, .ref nw, .ref nx])), (pl, .inr (1, [.ref pb, .int dn, .int wr, .int pw])), (wi, .inl (cI, 24, .inl (upd wf x.toNatClampNeg y)))] H := hP
        have hD : va_D A [(d0, .inr (3, [.ref pl, .ref tp, .ref wi, .ref pg, .ref te, .ref nw, .ref nx])), (pl, .inr (1, [.ref pb, .int dn, .int wr, .int pw])), (wi, .inl (cI, 24, .inl (upd wf x.toNatClampNeg y)))] := hD
        refine lv_iload_n hx hb d_D_wish_54 rfl (lv_at hl 0 rfl) ?_
        refine vx_ret ?_
        exact ey_iret (W1 := fun (u : ep_F) => [(d0, .inr (3, [.ref pl, .ref tp, .ref wi, .ref pg, .ref te, .ref nw, .ref nx])), (pl, .inr (1, [.ref pb, .int dn, .int wr, .int pw])), (wi, .inl (cI, 24, .inl u))]) hx hb hr hlocks hP hD hS (upd wf x.toNatClampNeg y) [0, 1, 2] rfl (by decide) (⟨by simp only [ep_knote, ↓reduceIte, not_true_eq_false, not_false_eq_true, c_1, c_7, c_27], rfl, rfl⟩) d_D_wish_55 (Nat.le_of_ble_eq_true rfl) (Nat.le_of_ble_eq_true rfl)
      · have hP9 : va_P (dC, dI) vwCl [(d0, .inr (3, [.ref pl, .ref tp, .ref wi, .ref pg, .ref te, .ref nw, .ref nx])), (pl, .inr (1, [.ref pb, .int dn, .int wr, .int pw])), (wi, .inl (cI, 24, .inl wf))] _ := ey_P (is := [0, 1, 2]) hP rfl
        have hD9 : va_D A [(d0, .inr (3, [.ref pl, .ref tp, .ref wi, .ref pg, .ref te, .ref nw, .ref nx])), (pl, .inr (1, [.ref pb, .int dn, .int wr, .int pw])), (wi, .inl (cI, 24, .inl wf))] := hD.sub [0, 1, 2] (by decide) rfl
        obtain ⟨sa9, hstr9⟩ := ex_str (k := 86) (t := "the store is down") hG (by decide +kernel)
        exact vx_throwS (names := ["java/lang/RuntimeException", "java/lang/Exception"]) hx hb hl9 hown (by decide +kernel) (by decide +kernel) (hts _ ew_260) (hts _ ew_23) hstr9 (ex_hatS hG hts) ex_goodS hZ.1 hZ.2 hS (by rw [hml]; exact hl.1) d_D_wish_30 d_D_wish_33 d_D_wish_34 d_D_wish_36 d_D_wish_39 (fun x h9 => (hno x h9).elim) (Nat.le_of_ble_eq_true rfl) (Nat.le_of_ble_eq_true rfl) (Nat.le_of_ble_eq_true rfl) (Nat.le_of_ble_eq_true rfl) hlocks (fun t _ hz hk => ⟨(), trivial, ⟨Or.inr ⟨rfl, by simp only [ep_knote, ↓reduceIte, not_true_eq_false, not_false_eq_true, c_1, c_7, c_27]⟩, (ey_keptX hP9 hD9 hS hz hk).1⟩, (ey_keptX hP9 hD9 hS hz hk).2⟩) hS.2.2 (Nat.le_of_ble_eq_true rfl) (Nat.le_of_ble_eq_true rfl)
    · have hP9 : va_P (dC, dI) vwCl [(d0, .inr (3, [.ref pl, .ref tp, .ref wi, .ref pg, .ref te, .ref nw, .ref nx])), (pl, .inr (1, [.ref pb, .int dn, .int wr, .int pw])), (wi, .inl (cI, 24, .inl wf))] _ := ey_P (is := [0, 1, 2]) hP rfl
      have hD9 : va_D A [(d0, .inr (3, [.ref pl, .ref tp, .ref wi, .ref pg, .ref te, .ref nw, .ref nx])), (pl, .inr (1, [.ref pb, .int dn, .int wr, .int pw])), (wi, .inl (cI, 24, .inl wf))] := hD.sub [0, 1, 2] (by decide) rfl
      obtain ⟨sa9, hstr9⟩ := ex_str (k := 88) (t := "i is not 0 .. 23") hG (by decide +kernel)
      exact vx_throwS (names := ["java/lang/RuntimeException", "java/lang/Exception"]) hx hb hl9 hown (by decide +kernel) (by decide +kernel) (hts _ ew_190) (hts _ ew_22) hstr9 (ex_hatA hG hts) ex_goodA hZ.1 hZ.2 hS (by rw [hml]; exact hl.1) d_D_wish_10 d_D_wish_13 d_D_wish_14 d_D_wish_16 d_D_wish_19 (fun x h9 => (hno x h9).elim) (Nat.le_of_ble_eq_true rfl) (Nat.le_of_ble_eq_true rfl) (Nat.le_of_ble_eq_true rfl) (Nat.le_of_ble_eq_true rfl) hlocks (fun t _ hz hk => ⟨(), trivial, ⟨Or.inl ⟨rfl, by simp only [ep_knote, ↓reduceIte, not_true_eq_false, not_false_eq_true, c_1, c_7]⟩, (ey_keptX hP9 hD9 hS hz hk).1⟩, (ey_keptX hP9 hD9 hS hz hk).2⟩) hS.2.2 (Nat.le_of_ble_eq_true rfl) (Nat.le_of_ble_eq_true rfl)
set_option maxHeartbeats 4000000 in
set_option maxRecDepth 100000 in
theorem c_ed_note (l : Launch) (dC : Nat → ClassId) (dI : Nat → Nat → Nat) (cI cB cJ cZ : ClassId) (hl9 : l.stackTraces = false) (d0 pl tp wi pg te nw nx : Nat) (pb : Nat) (dn wr pw : Int32) (n1 n2 n3 n4 : Nat) (ex ch : Int32) (no : ep_F) (x : Int32) : ey_Xi l y_D_note w_D_note { frames := 6, cells := 1, slots := 6, locals := 90 } (dC, dI) vwCl (ey_kt cI cB cJ cZ) [.ref d0, .int x] [(d0, .inr (3, [.ref pl, .ref tp, .ref wi, .ref pg, .ref te, .ref nw, .ref nx])), (pl, .inr (1, [.ref pb, .int dn, .int wr, .int pw])), (nw, .inr (0, [.ref n1, .ref n2, .ref n3, .ref n4, .int ex, .int ch])), (n4, .inl (cI, 24, .inl no))] (fun (r : Int32) (u : Unit) => ep_knote dn x = 0 ∧ r = no x.toNatClampNeg) (fun (u : Unit) => [(d0, .inr (3, [.ref pl, .ref tp, .ref wi, .ref pg, .ref te, .ref nw, .ref nx])), (pl, .inr (1, [.ref pb, .int dn, .int wr, .int pw])), (nw, .inr (0, [.ref n1, .ref n2, .ref n3, .ref n4, .int ex, .int ch])), (n4, .inl (cI, 24, .inl no))]) (fun E => (E = "java/lang/IllegalArgumentException" ∧ ep_knote dn x = 1) ∨ (E = "java/lang/IllegalStateException" ∧ ep_knote dn x = 2)) 1 6 := by
  intro sz
  refine vx_ofW (cc := b_D_note) (maxL := 2) (ret := (some .int)) (by decide) rfl ?_
  intro p e s m args below meth c s₁ B hml hno hv
  obtain ⟨rfl, hZ, hsz, hP, hK, hG, hD0⟩ := hv
  have hx := B.exec
  have hb := B.bytes
  have hr := B.returns
  have hts := fun (w : Cond) (h : w ∈ ew_T) => atoms_spec (ws := w_D_note) B.pre w (List.mem_cons_of_mem _ h)
  have hown : s.vm.findClass R_D = some m.cls := findClass_of_methodNamed B.named
  have hlocks := B.notSynchronized
  subst hsz
  have hD := hD0.self (sz := s.heap.size)
  generalize hAe : va_A [(d0, .inr (3, [.ref pl, .ref tp, .ref wi, .ref pg, .ref te, .ref nw, .ref nx])), (pl, .inr (1, [.ref pb, .int dn, .int wr, .int pw])), (nw, .inr (0, [.ref n1, .ref n2, .ref n3, .ref n4, .int ex, .int ch])), (n4, .inl (cI, 24, .inl no))] s.heap.size = A at hD hZ ⊢
  have hA : ∀ q : Nat, s.heap.size ≤ q → A q := fun q h => by rw [← hAe]; exact Or.inr h
  have hS : va_S A s.heap s.heap [] := va_S.rf
  have hP : va_P (dC, dI) vwCl [(d0, .inr (3, [.ref pl, .ref tp, .ref wi, .ref pg, .ref te, .ref nw, .ref nx])), (pl, .inr (1, [.ref pb, .int dn, .int wr, .int pw])), (nw, .inr (0, [.ref n1, .ref n2, .ref n3, .ref n4, .int ex, .int ch])), (n4, .inl (cI, 24, .inl no))] s.heap := hP
  have hl := lv_entry ([.ref d0, .int x]) (n := 2) (Nat.le_of_ble_eq_true rfl)
  rw [lg_entry_eq]
  generalize (lg_sl ([.ref d0, .int x]) ++ List.replicate (2 - (lg_sl ([.ref d0, .int x])).length) Slot.unset).toArray = ls at hl ⊢
  have hl : lv_has ls 2 [(0, .ref d0), (1, .int x)] := hl
  refine lv_iload_n hx hb d_D_note_0 rfl (lv_at hl 1 rfl) ?_
  refine lv_if_lt (tgt := 10) hx hb d_D_note_1 (by decide) (fun c_1 => ?_) (fun c_1 => ?_)
  · have hP9 : va_P (dC, dI) vwCl [(d0, .inr (3, [.ref pl, .ref tp, .ref wi, .ref pg, .ref te, .ref nw, .ref nx])), (pl, .inr (1, [.ref pb, .int dn, .int wr, .int pw])), (nw, .inr (0, [.ref n1, .ref n2, .ref n3, .ref n4, .int ex, .int ch])), (n4, .inl (cI, 24, .inl no))] _ := ey_P (is := [0, 1, 2, 3]) hP rfl
    have hD9 : va_D A [(d0, .inr (3, [.ref pl, .ref tp, .ref wi, .ref pg, .ref te, .ref nw, .ref nx])), (pl, .inr (1, [.ref pb, .int dn, .int wr, .int pw])), (nw, .inr (0, [.ref n1, .ref n2, .ref n3, .ref n4, .int ex, .int ch])), (n4, .inl (cI, 24, .inl no))] := hD.sub [0, 1, 2, 3] (by decide) rfl
    obtain ⟨sa9, hstr9⟩ := ex_str (k := 88) (t := "i is not 0 .. 23") hG (by decide +kernel)
    exact vx_throwS (names := ["java/lang/RuntimeException", "java/lang/Exception"]) hx hb hl9 hown (by decide +kernel) (by decide +kernel) (hts _ ew_190) (hts _ ew_22) hstr9 (ex_hatA hG hts) ex_goodA hZ.1 hZ.2 hS (by rw [hml]; exact hl.1) d_D_note_10 d_D_note_13 d_D_note_14 d_D_note_16 d_D_note_19 (fun x h9 => (hno x h9).elim) (Nat.le_of_ble_eq_true rfl) (Nat.le_of_ble_eq_true rfl) (Nat.le_of_ble_eq_true rfl) (Nat.le_of_ble_eq_true rfl) hlocks (fun t _ hz hk => ⟨(), trivial, ⟨Or.inl ⟨rfl, by simp only [ep_knote, ↓reduceIte, not_true_eq_false, not_false_eq_true, c_1]⟩, (ey_keptX hP9 hD9 hS hz hk).1⟩, (ey_keptX hP9 hD9 hS hz hk).2⟩) hS.2.2 (Nat.le_of_ble_eq_true rfl) (Nat.le_of_ble_eq_true rfl)
  · refine lv_iload_n hx hb d_D_note_4 rfl (lv_at hl 1 rfl) ?_
    refine lv_bipush (v := 24) hx hb d_D_note_5 (by decide) ?_
    refine lv_icmp_lt (tgt := 20) hx hb d_D_note_7 (by decide) (fun c_7 => ?_) (fun c_7 => ?_)
    · refine lv_aload_n hx hb d_D_note_20 rfl (lv_at hl 0 rfl) ?_
      refine va_get (D := (dC, dI)) (ci := 3) (v := .ref pl) (C := R_D) (T := T_D) (N := 7) hx hb hts in_D hown hK hP 0 rfl rfl 0 (by decide) (hts _ ew_109) (fun _ h9 => h9) rfl d_D_note_21 ?_
      refine va_get (D := (dC, dI)) (ci := 1) (v := .int dn) (C := R_P) (T := T_P) (N := 4) hx hb hts in_P hown hK hP 1 rfl rfl 1 (by decide) (hts _ ew_48) (fun _ h9 => h9) rfl d_D_note_24 ?_
      refine lv_if_eq (tgt := 40) hx hb d_D_note_27 (by decide) (fun c_27 => ?_) (fun c_27 => ?_)
      · refine lv_aload_n hx hb d_D_note_40 rfl (lv_at hl 0 rfl) ?_
        refine va_get (D := (dC, dI)) (ci := 3) (v := .ref nw) (C := R_D) (T := T_D) (N := 7) hx hb hts in_D hown hK hP 0 rfl rfl 5 (by decide) (hts _ ew_114) (fun _ h9 => h9) rfl d_D_note_41 ?_
        refine va_get (D := (dC, dI)) (ci := 0) (v := .ref n4) (C := R_M) (T := T_M) (N := 6) hx hb hts in_M hown hK hP 2 rfl rfl 3 (by decide) (hts _ ew_90) (fun _ h9 => h9) rfl d_D_note_44 ?_
        refine lv_iload_n hx hb d_D_note_47 rfl (lv_at hl 1 rfl) ?_
        refine va_iald hx hb hK hP 3 0 rfl rfl (ey_inlt (n := 24) ⟨rfl, by decide⟩ c_1 c_7) d_D_note_48 ?_
        refine vx_ret ?_
        exact ey_iret (W1 := fun (u : Unit) => [(d0, .inr (3, [.ref pl, .ref tp, .ref wi, .ref pg, .ref te, .ref nw, .ref nx])), (pl, .inr (1, [.ref pb, .int dn, .int wr, .int pw])), (nw, .inr (0, [.ref n1, .ref n2, .ref n3, .ref n4, .int ex, .int ch])), (n4, .inl (cI, 24, .inl no))]) hx hb hr hlocks hP hD hS () [0, 1, 2, 3] rfl (by decide) (⟨by simp only [ep_knote, ↓reduceIte, not_true_eq_false, not_false_eq_true, c_1, c_7, c_27], rfl⟩) d_D_note_49 (Nat.le_of_ble_eq_true rfl) (Nat.le_of_ble_eq_true rfl)
      · have hP9 : va_P (dC, dI) vwCl [(d0, .inr (3, [.ref pl, .ref tp, .ref wi, .ref pg, .ref te, .ref nw, .ref nx])), (pl, .inr (1, [.ref pb, .int dn, .int wr, .int pw])), (nw, .inr (0, [.ref n1, .ref n2, .ref n3, .ref n4, .int ex, .int ch])), (n4, .inl (cI, 24, .inl no))] _ := ey_P (is := [0, 1, 2, 3]) hP rfl
        have hD9 : va_D A [(d0, .inr (3, [.ref pl, .ref tp, .ref wi, .ref pg, .ref te, .ref nw, .ref nx])), (pl, .inr (1, [.ref pb, .int dn, .int wr, .int pw])), (nw, .inr (0, [.ref n1, .ref n2, .ref n3, .ref n4, .int ex, .int ch])), (n4, .inl (cI, 24, .inl no))] := hD.sub [0, 1, 2, 3] (by decide) rfl
        obtain ⟨sa9, hstr9⟩ := ex_str (k := 86) (t := "the store is down") hG (by decide +kernel)
        exact vx_throwS (names := ["java/lang/RuntimeException", "java/lang/Exception"]) hx hb hl9 hown (by decide +kernel) (by decide +kernel) (hts _ ew_260) (hts _ ew_23) hstr9 (ex_hatS hG hts) ex_goodS hZ.1 hZ.2 hS (by rw [hml]; exact hl.1) d_D_note_30 d_D_note_33 d_D_note_34 d_D_note_36 d_D_note_39 (fun x h9 => (hno x h9).elim) (Nat.le_of_ble_eq_true rfl) (Nat.le_of_ble_eq_true rfl) (Nat.le_of_ble_eq_true rfl) (Nat.le_of_ble_eq_true rfl) hlocks (fun t _ hz hk => ⟨(), trivial, ⟨Or.inr ⟨rfl, by simp only [ep_knote, ↓reduceIte, not_true_eq_false, not_false_eq_true, c_1, c_7, c_27]⟩, (ey_keptX hP9 hD9 hS hz hk).1⟩, (ey_keptX hP9 hD9 hS hz hk).2⟩) hS.2.2 (Nat.le_of_ble_eq_true rfl) (Nat.le_of_ble_eq_true rfl)
    · have hP9 : va_P (dC, dI) vwCl [(d0, .inr (3, [.ref pl, .ref tp, .ref wi, .ref pg, .ref te, .ref nw, .ref nx])), (pl, .inr (1, [.ref pb, .int dn, .int wr, .int pw])), (nw, .inr (0, [.ref n1, .ref n2, .ref n3, .ref n4, .int ex, .int ch])), (n4, .inl (cI, 24, .inl no))] _ := ey_P (is := [0, 1, 2, 3]) hP rfl
      have hD9 : va_D A [(d0, .inr (3, [.ref pl, .ref tp, .ref wi, .ref pg, .ref te, .ref nw, .ref nx])), (pl, .inr (1, [.ref pb, .int dn, .int wr, .int pw])), (nw, .inr (0, [.ref n1, .ref n2, .ref n3, .ref n4, .int ex, .int ch])), (n4, .inl (cI, 24, .inl no))] := hD.sub [0, 1, 2, 3] (by decide) rfl
      obtain ⟨sa9, hstr9⟩ := ex_str (k := 88) (t := "i is not 0 .. 23") hG (by decide +kernel)
      exact vx_throwS (names := ["java/lang/RuntimeException", "java/lang/Exception"]) hx hb hl9 hown (by decide +kernel) (by decide +kernel) (hts _ ew_190) (hts _ ew_22) hstr9 (ex_hatA hG hts) ex_goodA hZ.1 hZ.2 hS (by rw [hml]; exact hl.1) d_D_note_10 d_D_note_13 d_D_note_14 d_D_note_16 d_D_note_19 (fun x h9 => (hno x h9).elim) (Nat.le_of_ble_eq_true rfl) (Nat.le_of_ble_eq_true rfl) (Nat.le_of_ble_eq_true rfl) (Nat.le_of_ble_eq_true rfl) hlocks (fun t _ hz hk => ⟨(), trivial, ⟨Or.inl ⟨rfl, by simp only [ep_knote, ↓reduceIte, not_true_eq_false, not_false_eq_true, c_1, c_7]⟩, (ey_keptX hP9 hD9 hS hz hk).1⟩, (ey_keptX hP9 hD9 hS hz hk).2⟩) hS.2.2 (Nat.le_of_ble_eq_true rfl) (Nat.le_of_ble_eq_true rfl)
end
section
set_option maxHeartbeats 4000000 in
set_option maxRecDepth 100000 in
theorem c_ed_put_L {p : Program} {l : Launch} {e : Env} {s : State} {m : MethodId} {args : Array Value} {below : List Frame} {meth : Method} {c : Code} {dC : Nat → ClassId} {dI : Nat → Nat → Nat} {cI cB cJ cZ : ClassId} {A : Nat → Prop} {d0 pl tp wi pg te nw nx : Nat} {pb : Nat} {dn wr pw : Int32} {tb : Nat} {ln : Int32} {nt : Nat} {tf : ep_F} {v : Int64} {x : Int32} (hnt : nt < 2 ^ 30) (hk0 : ep_kput dn nt ln x = 0) (hK : va_K (dC, dI) vwCl (ey_kt cI cB cJ cZ) s) (hG : ex_G s) (C0 : ey_Cx p s m args meth c b_D_put 5 R_D ew_T (some .int) A)  :
    ∀ (fuel : Nat) (y : Int32) (q : ep_T) (hy1 : -1 ≤ y.toInt) (hy2 : y.toInt + 2 ≤ (fuel : Int)) (hu : ep_putl nt v fuel y q = ep_putl nt v 9 (x - 1) (tf, ln)), ∀ (H : Heap) (locs : List Loc), va_P (dC, dI) vwCl [(d0, .inr (3, [.ref pl, .ref tp, .ref wi, .ref pg, .ref te, .ref nw, .ref nx])), (pl, .inr (1, [.ref pb, .int dn, .int wr, .int pw])), (tp, .inr (2, [.ref tb, .int q.2])), (tb, .inl (cB, nt, .inl q.1))] H → va_D A [(d0, .inr (3, [.ref pl, .ref tp, .ref wi, .ref pg, .ref te, .ref nw, .ref nx])), (pl, .inr (1, [.ref pb, .int dn, .int wr, .int pw])), (tp, .inr (2, [.ref tb, .int q.2])), (tb, .inl (cB, nt, .inl q.1))] → va_S A s.heap H locs → ∀ (ls : Array Slot), lv_has ls 5 [(0, .ref d0), (1, .long v), (3, .int x), (4, .int y)] → W p l e { frames := 6, cells := 1, slots := 6, locals := 90 } s m args below meth c H locs 0 0 (vx_MQ below (va_Qi (fun (r : Int32) (u : ep_T) => ep_kput dn nt ln x = 0 ∧ r = u.2 ∧ u = ep_putl nt v 9 (x - 1) (tf, ln)) (fun u t => ey_Post (dC, dI) vwCl A ((fun (u : ep_T) => [(d0, .inr (3, [.ref pl, .ref tp, .ref wi, .ref pg, .ref te, .ref nw, .ref nx])), (pl, .inr (1, [.ref pb, .int dn, .int wr, .int pw])), (tp, .inr (2, [.ref tb, .int u.2])), (tb, .inl (cB, nt, .inl u.1))]) u) t) A) (vx_X (fun _ : Unit => True) (fun E _ t => (fun E => (E = "java/lang/IllegalArgumentException" ∧ ep_kput dn nt ln x = 1) ∨ (E = "java/lang/IllegalStateException" ∧ ep_kput dn nt ln x = 2)) E ∧ ey_Post (dC, dI) vwCl A [(d0, .inr (3, [.ref pl, .ref tp, .ref wi, .ref pg, .ref te, .ref nw, .ref nx])), (pl, .inr (1, [.ref pb, .int dn, .int wr, .int pw])), (tp, .inr (2, [.ref tb, .int ln])), (tb, .inl (cB, nt, .inl tf))] t) A) args s 1 6 A) (F0 m 57 ls []) := by
  obtain ⟨hx, hb, hml, hown, hts, hr, hlocks, hA⟩ := id C0
  intro fuel
  induction fuel with
  | zero =>
    intro y q hy1 hy2 hu H locs hP hD hS ls hl
    exact absurd hy2 (by omega)
  | succ fuel ih =>
    intro y q hy1 hy2 hu H locs hP hD hS ls hl
    refine lv_iload hx hb d_D_put_57 (lv_at hl 3 rfl) ?_
    refine lv_if_lt (tgt := 84) hx hb d_D_put_59 (by decide) (fun c_59 => ?_) (fun c_59 => ?_)
    · refine lv_aload_n hx hb d_D_put_84 rfl (lv_at hl 0 rfl) ?_
      refine va_get (D := (dC, dI)) (ci := 3) (v := .ref tp) (C := R_D) (T := T_D) (N := 7) hx hb hts in_D hown hK hP 0 rfl rfl 1 (by decide) (hts _ ew_110) (fun _ h9 => h9) rfl d_D_put_85 ?_
      refine va_get (D := (dC, dI)) (ci := 2) (v := .int q.2) (C := R_Tp) (T := T_Tp) (N := 2) hx hb hts in_Tp hown hK hP 2 rfl rfl 1 (by decide) (hts _ ew_71) (fun _ h9 => h9) rfl d_D_put_88 ?_
      refine vx_ret ?_
      exact ey_iret (W1 := fun (u : ep_T) => [(d0, .inr (3, [.ref pl, .ref tp, .ref wi, .ref pg, .ref te, .ref nw, .ref nx])), (pl, .inr (1, [.ref pb, .int dn, .int wr, .int pw])), (tp, .inr (2, [.ref tb, .int u.2])), (tb, .inl (cB, nt, .inl u.1))]) hx hb hr hlocks hP hD hS q [0, 1, 2, 3] rfl (by decide) (⟨hk0, rfl, by rw [← hu]; simp only [ep_putl, ↓reduceIte, c_59]⟩) d_D_put_91 (Nat.le_of_ble_eq_true rfl) (Nat.le_of_ble_eq_true rfl)
    · refine lv_aload_n hx hb d_D_put_62 rfl (lv_at hl 0 rfl) ?_
      refine va_get (D := (dC, dI)) (ci := 3) (v := .ref tp) (C := R_D) (T := T_D) (N := 7) hx hb hts in_D hown hK hP 0 rfl rfl 1 (by decide) (hts _ ew_110) (fun _ h9 => h9) rfl d_D_put_63 ?_
      refine lv_lload_n hx hb d_D_put_66 rfl (lv_at hl 1 rfl) ?_
      refine lv_bipush (v := 8) hx hb d_D_put_67 (by decide) ?_
      refine lv_iload hx hb d_D_put_69 (lv_at hl 3 rfl) ?_
      refine lv_imul hx hb d_D_put_71 ?_
      refine lv_lushr (v := ey_lushr v (8 * y)) hx hb d_D_put_72 rfl ?_
      refine lv_l2i (v := (ey_lushr v (8 * y)).toInt32) hx hb d_D_put_73 rfl ?_
      refine lv_i2b (v := ((ey_lushr v (8 * y)).toInt32).toInt8.toInt32) hx hb d_D_put_74 rfl ?_
      refine ey_Vv (Wc := [(tp, .inr (2, [.ref tb, .int q.2])), (tb, .inl (cB, nt, .inl q.1))]) (wr := [(d0, .inr (3, [.ref pl, .ref tp, .ref wi, .ref pg, .ref te, .ref nw, .ref nx])), (pl, .inr (1, [.ref pb, .int dn, .int wr, .int pw]))]) (As := [.int (((ey_lushr v (8 * y)).toInt32).toInt8.toInt32)]) (rest := []) ⟨hx, hb, hml, hown, hts⟩ (c_tp_app l dC dI cI cB cJ cZ tp tb q.2 nt q.1 (((ey_lushr v (8 * y)).toInt32).toInt8.toInt32) (by omega)) (cwV 1 hts (ew_V ew_276 ew_277 ew_278 ew_16 g_Tp_append) rfl rfl rfl (by decide +kernel) ⟨Nat.le_of_ble_eq_true rfl, Nat.le_of_ble_eq_true rfl⟩) hK hG hP hD hS hA [2, 3] [0, 1] rfl rfl (by decide) (by decide) (by decide) (ci := 2) (q0 := 0) rfl rfl rfl hl.1 rfl (Nat.le_of_ble_eq_true rfl) d_D_put_75 ⟨Nat.le_of_ble_eq_true rfl, Nat.le_of_ble_eq_true rfl⟩ (fun u_2 H locs e_3 hP hD hS => ?_)
      have hP : va_P (dC, dI) vwCl [(d0, .inr (3, [.ref pl, .ref tp, .ref wi, .ref pg, .ref te, .ref nw, .ref nx])), (pl, .inr (1, [.ref pb, .int dn, .int wr, .int pw])), (tp, .inr (2, [.ref tb, .int u_2.2])), (tb, .inl (cB, nt, .inl u_2.1))] H := hP
      have hD : va_D A [(d0, .inr (3, [.ref pl, .ref tp, .ref wi, .ref pg, .ref te, .ref nw, .ref nx])), (pl, .inr (1, [.ref pb, .int dn, .int wr, .int pw])), (tp, .inr (2, [.ref tb, .int u_2.2])), (tb, .inl (cB, nt, .inl u_2.1))] := hD
      subst e_3
      refine lv_iinc (v := y + -1) (lv' := [(4, .int (y + -1)), (0, .ref d0), (1, .long v), (3, .int x)]) hx hb d_D_put_78 hl (k := 3) rfl (rfl) (by decide) rfl (fun ls hl => ?_)
      refine lv_goto (tgt := 57) hx hb d_D_put_81 (by decide) ?_
      exact ih (y + -1) (ep_app nt q (ey_lushr v (8 * y)).toInt32.toInt8.toInt32) (ey_dec1 c_59) (ey_dec2 c_59 hy2) (by rw [← hu]; simp only [ep_putl, ↓reduceIte, c_59]) _ _ hP hD hS ls (lv_sub hl [1, 2, 3, 0] rfl)
set_option maxHeartbeats 4000000 in
set_option maxRecDepth 100000 in
theorem c_ed_put (l : Launch) (dC : Nat → ClassId) (dI : Nat → Nat → Nat) (cI cB cJ cZ : ClassId) (hl9 : l.stackTraces = false) (d0 pl tp wi pg te nw nx : Nat) (pb : Nat) (dn wr pw : Int32) (tb : Nat) (ln : Int32) (nt : Nat) (tf : ep_F) (v : Int64) (x : Int32) (hnt : nt < 2 ^ 30) : ey_Xi l y_D_put w_D_put { frames := 6, cells := 1, slots := 6, locals := 90 } (dC, dI) vwCl (ey_kt cI cB cJ cZ) [.ref d0, .long v, .int x] [(d0, .inr (3, [.ref pl, .ref tp, .ref wi, .ref pg, .ref te, .ref nw, .ref nx])), (pl, .inr (1, [.ref pb, .int dn, .int wr, .int pw])), (tp, .inr (2, [.ref tb, .int ln])), (tb, .inl (cB, nt, .inl tf))] (fun (r : Int32) (u : ep_T) => ep_kput dn nt ln x = 0 ∧ r = u.2 ∧ u = ep_putl nt v 9 (x - 1) (tf, ln)) (fun (u : ep_T) => [(d0, .inr (3, [.ref pl, .ref tp, .ref wi, .ref pg, .ref te, .ref nw, .ref nx])), (pl, .inr (1, [.ref pb, .int dn, .int wr, .int pw])), (tp, .inr (2, [.ref tb, .int u.2])), (tb, .inl (cB, nt, .inl u.1))]) (fun E => (E = "java/lang/IllegalArgumentException" ∧ ep_kput dn nt ln x = 1) ∨ (E = "java/lang/IllegalStateException" ∧ ep_kput dn nt ln x = 2)) 1 6 := by
  intro sz
  refine vx_ofW (cc := b_D_put) (maxL := 5) (ret := (some .int)) (by decide) rfl ?_
  intro p e s m args below meth c s₁ B hml hno hv
  obtain ⟨rfl, hZ, hsz, hP, hK, hG, hD0⟩ := hv
  have hx := B.exec
  have hb := B.bytes
  have hr := B.returns
  have hts := fun (w : Cond) (h : w ∈ ew_T) => atoms_spec (ws := w_D_put) B.pre w (List.mem_cons_of_mem _ h)
  have hown : s.vm.findClass R_D = some m.cls := findClass_of_methodNamed B.named
  have hlocks := B.notSynchronized
  subst hsz
  have hD := hD0.self (sz := s.heap.size)
  generalize hAe : va_A [(d0, .inr (3, [.ref pl, .ref tp, .ref wi, .ref pg, .ref te, .ref nw, .ref nx])), (pl, .inr (1, [.ref pb, .int dn, .int wr, .int pw])), (tp, .inr (2, [.ref tb, .int ln])), (tb, .inl (cB, nt, .inl tf))] s.heap.size = A at hD hZ ⊢
  have hA : ∀ q : Nat, s.heap.size ≤ q → A q := fun q h => by rw [← hAe]; exact Or.inr h
  have hS : va_S A s.heap s.heap [] := va_S.rf
  have hP : va_P (dC, dI) vwCl [(d0, .inr (3, [.ref pl, .ref tp, .ref wi, .ref pg, .ref te, .ref nw, .ref nx])), (pl, .inr (1, [.ref pb, .int dn, .int wr, .int pw])), (tp, .inr (2, [.ref tb, .int ln])), (tb, .inl (cB, nt, .inl tf))] s.heap := hP
  have hl := lv_entry ([.ref d0, .long v, .int x]) (n := 5) (Nat.le_of_ble_eq_true rfl)
  rw [lg_entry_eq]
  generalize (lg_sl ([.ref d0, .long v, .int x]) ++ List.replicate (5 - (lg_sl ([.ref d0, .long v, .int x])).length) Slot.unset).toArray = ls at hl ⊢
  have hl : lv_has ls 5 [(0, .ref d0), (1, .long v), (3, .int x)] := hl
  have C0 : ey_Cx p s m [.ref d0, .long v, .int x].toArray meth c b_D_put 5 R_D ew_T (some .int) A := ⟨hx, hb, hml, hown, hts, hr, hlocks, hA⟩
  refine lv_iload_n hx hb d_D_put_0 rfl (lv_at hl 2 rfl) ?_
  refine lv_iconst (v := 1) hx hb d_D_put_1 (by decide) ?_
  refine lv_icmp_lt (tgt := 11) hx hb d_D_put_2 (by decide) (fun c_2 => ?_) (fun c_2 => ?_)
  · have hP9 : va_P (dC, dI) vwCl [(d0, .inr (3, [.ref pl, .ref tp, .ref wi, .ref pg, .ref te, .ref nw, .ref nx])), (pl, .inr (1, [.ref pb, .int dn, .int wr, .int pw])), (tp, .inr (2, [.ref tb, .int ln])), (tb, .inl (cB, nt, .inl tf))] _ := ey_P (is := [0, 1, 2, 3]) hP rfl
    have hD9 : va_D A [(d0, .inr (3, [.ref pl, .ref tp, .ref wi, .ref pg, .ref te, .ref nw, .ref nx])), (pl, .inr (1, [.ref pb, .int dn, .int wr, .int pw])), (tp, .inr (2, [.ref tb, .int ln])), (tb, .inl (cB, nt, .inl tf))] := hD.sub [0, 1, 2, 3] (by decide) rfl
    obtain ⟨sa9, hstr9⟩ := ex_str (k := 57) (t := "n is not 1 .. 8") hG (by decide +kernel)
    exact vx_throwS (names := ["java/lang/RuntimeException", "java/lang/Exception"]) hx hb hl9 hown (by decide +kernel) (by decide +kernel) (hts _ ew_190) (hts _ ew_22) hstr9 (ex_hatA hG hts) ex_goodA hZ.1 hZ.2 hS (by rw [hml]; exact hl.1) d_D_put_11 d_D_put_14 d_D_put_15 d_D_put_17 d_D_put_20 (fun x h9 => (hno x h9).elim) (Nat.le_of_ble_eq_true rfl) (Nat.le_of_ble_eq_true rfl) (Nat.le_of_ble_eq_true rfl) (Nat.le_of_ble_eq_true rfl) hlocks (fun t _ hz hk => ⟨(), trivial, ⟨Or.inl ⟨rfl, by simp only [ep_kput, ↓reduceIte, not_true_eq_false, not_false_eq_true, c_2]⟩, (ey_keptX hP9 hD9 hS hz hk).1⟩, (ey_keptX hP9 hD9 hS hz hk).2⟩) hS.2.2 (Nat.le_of_ble_eq_true rfl) (Nat.le_of_ble_eq_true rfl)
  · refine lv_iload_n hx hb d_D_put_5 rfl (lv_at hl 2 rfl) ?_
    refine lv_bipush (v := 8) hx hb d_D_put_6 (by decide) ?_
    refine lv_icmp_le (tgt := 21) hx hb d_D_put_8 (by decide) (fun c_8 => ?_) (fun c_8 => ?_)
    · refine lv_aload_n hx hb d_D_put_21 rfl (lv_at hl 0 rfl) ?_
      refine va_get (D := (dC, dI)) (ci := 3) (v := .ref pl) (C := R_D) (T := T_D) (N := 7) hx hb hts in_D hown hK hP 0 rfl rfl 0 (by decide) (hts _ ew_109) (fun _ h9 => h9) rfl d_D_put_22 ?_
      refine va_get (D := (dC, dI)) (ci := 1) (v := .int dn) (C := R_P) (T := T_P) (N := 4) hx hb hts in_P hown hK hP 1 rfl rfl 1 (by decide) (hts _ ew_48) (fun _ h9 => h9) rfl d_D_put_25 ?_
      refine lv_if_ne (tgt := 42) hx hb d_D_put_28 (by decide) (fun c_28 => ?_) (fun c_28 => ?_)
      · have hP9 : va_P (dC, dI) vwCl [(d0, .inr (3, [.ref pl, .ref tp, .ref wi, .ref pg, .ref te, .ref nw, .ref nx])), (pl, .inr (1, [.ref pb, .int dn, .int wr, .int pw])), (tp, .inr (2, [.ref tb, .int ln])), (tb, .inl (cB, nt, .inl tf))] _ := ey_P (is := [0, 1, 2, 3]) hP rfl
        have hD9 : va_D A [(d0, .inr (3, [.ref pl, .ref tp, .ref wi, .ref pg, .ref te, .ref nw, .ref nx])), (pl, .inr (1, [.ref pb, .int dn, .int wr, .int pw])), (tp, .inr (2, [.ref tb, .int ln])), (tb, .inl (cB, nt, .inl tf))] := hD.sub [0, 1, 2, 3] (by decide) rfl
        obtain ⟨sa9, hstr9⟩ := ex_str (k := 72) (t := "the store is down, or the tape has no room") hG (by decide +kernel)
        exact vx_throwS (names := ["java/lang/RuntimeException", "java/lang/Exception"]) hx hb hl9 hown (by decide +kernel) (by decide +kernel) (hts _ ew_260) (hts _ ew_23) hstr9 (ex_hatS hG hts) ex_goodS hZ.1 hZ.2 hS (by rw [hml]; exact hl.1) d_D_put_42 d_D_put_45 d_D_put_46 d_D_put_48 d_D_put_51 (fun x h9 => (hno x h9).elim) (Nat.le_of_ble_eq_true rfl) (Nat.le_of_ble_eq_true rfl) (Nat.le_of_ble_eq_true rfl) (Nat.le_of_ble_eq_true rfl) hlocks (fun t _ hz hk => ⟨(), trivial, ⟨Or.inr ⟨rfl, by simp only [ep_kput, ↓reduceIte, not_true_eq_false, not_false_eq_true, c_2, c_8, c_28]⟩, (ey_keptX hP9 hD9 hS hz hk).1⟩, (ey_keptX hP9 hD9 hS hz hk).2⟩) hS.2.2 (Nat.le_of_ble_eq_true rfl) (Nat.le_of_ble_eq_true rfl)
      · refine lv_aload_n hx hb d_D_put_31 rfl (lv_at hl 0 rfl) ?_
        refine va_get (D := (dC, dI)) (ci := 3) (v := .ref tp) (C := R_D) (T := T_D) (N := 7) hx hb hts in_D hown hK hP 0 rfl rfl 1 (by decide) (hts _ ew_110) (fun _ h9 => h9) rfl d_D_put_32 ?_
        refine lv_iload_n hx hb d_D_put_35 rfl (lv_at hl 2 rfl) ?_
        refine ey_Vi (Wc := [(tp, .inr (2, [.ref tb, .int ln])), (tb, .inl (cB, nt, .inl tf))]) (wr := [(d0, .inr (3, [.ref pl, .ref tp, .ref wi, .ref pg, .ref te, .ref nw, .ref nx])), (pl, .inr (1, [.ref pb, .int dn, .int wr, .int pw]))]) (As := [.int x]) (rest := []) ⟨hx, hb, hml, hown, hts⟩ (c_tp_room l dC dI cI cB cJ cZ tp tb ln nt tf x) (cwV 1 hts (ew_V ew_256 ew_257 ew_258 ew_16 g_Tp_hasRoomFor) rfl rfl rfl (by decide +kernel) ⟨Nat.le_of_ble_eq_true rfl, Nat.le_of_ble_eq_true rfl⟩) hK hG hP hD hS hA [2, 3] [0, 1] rfl rfl (by decide) (by decide) (by decide) (ci := 2) (q0 := 0) rfl rfl rfl hl.1 rfl (Nat.le_of_ble_eq_true rfl) d_D_put_36 ⟨Nat.le_of_ble_eq_true rfl, Nat.le_of_ble_eq_true rfl⟩ (fun r_1 u_2 H locs e_3 hP hD hS => ?_)
        have hP : va_P (dC, dI) vwCl [(d0, .inr (3, [.ref pl, .ref tp, .ref wi, .ref pg, .ref te, .ref nw, .ref nx])), (pl, .inr (1, [.ref pb, .int dn, .int wr, .int pw])), (tp, .inr (2, [.ref tb, .int ln])), (tb, .inl (cB, nt, .inl tf))] H := hP
        have hD : va_D A [(d0, .inr (3, [.ref pl, .ref tp, .ref wi, .ref pg, .ref te, .ref nw, .ref nx])), (pl, .inr (1, [.ref pb, .int dn, .int wr, .int pw])), (tp, .inr (2, [.ref tb, .int ln])), (tb, .inl (cB, nt, .inl tf))] := hD
        subst e_3
        refine lv_if_ne (tgt := 52) hx hb d_D_put_39 (by decide) (fun c_39 => ?_) (fun c_39 => ?_)
        · refine lv_iload_n hx hb d_D_put_52 rfl (lv_at hl 2 rfl) ?_
          refine lv_iconst (v := 1) hx hb d_D_put_53 (by decide) ?_
          refine lv_isub hx hb d_D_put_54 ?_
          refine lv_istore (lv' := [(4, .int (x - 1)), (0, .ref d0), (1, .long v), (3, .int x)]) hx hb d_D_put_55 hl (by decide) rfl (fun ls hl => ?_)
          have hk0 : ep_kput dn nt ln x = 0 := by simp only [ep_kput, ↓reduceIte, not_true_eq_false, not_false_eq_true, c_2, c_8, c_28, c_39]
          exact c_ed_put_L (d0 := d0) (pl := pl) (tp := tp) (wi := wi) (pg := pg) (te := te) (nw := nw) (nx := nx) (pb := pb) (dn := dn) (wr := wr) (pw := pw) (tb := tb) (ln := ln) (nt := nt) (tf := tf) (v := v) (x := x) hnt hk0 hK hG C0 9 (x - 1) (tf, ln) (ey_put1 c_2 c_8) (ey_put2 c_2 c_8) rfl _ _ hP hD hS ls (lv_sub hl [1, 2, 3, 0] rfl)
        · have hP9 : va_P (dC, dI) vwCl [(d0, .inr (3, [.ref pl, .ref tp, .ref wi, .ref pg, .ref te, .ref nw, .ref nx])), (pl, .inr (1, [.ref pb, .int dn, .int wr, .int pw])), (tp, .inr (2, [.ref tb, .int ln])), (tb, .inl (cB, nt, .inl tf))] _ := ey_P (is := [0, 1, 2, 3]) hP rfl
          have hD9 : va_D A [(d0, .inr (3, [.ref pl, .ref tp, .ref wi, .ref pg, .ref te, .ref nw, .ref nx])), (pl, .inr (1, [.ref pb, .int dn, .int wr, .int pw])), (tp, .inr (2, [.ref tb, .int ln])), (tb, .inl (cB, nt, .inl tf))] := hD.sub [0, 1, 2, 3] (by decide) rfl
          obtain ⟨sa9, hstr9⟩ := ex_str (k := 72) (t := "the store is down, or the tape has no room") hG (by decide +kernel)
          exact vx_throwS (names := ["java/lang/RuntimeException", "java/lang/Exception"]) hx hb hl9 hown (by decide +kernel) (by decide +kernel) (hts _ ew_260) (hts _ ew_23) hstr9 (ex_hatS hG hts) ex_goodS hZ.1 hZ.2 hS (by rw [hml]; exact hl.1) d_D_put_42 d_D_put_45 d_D_put_46 d_D_put_48 d_D_put_51 (fun x h9 => (hno x h9).elim) (Nat.le_of_ble_eq_true rfl) (Nat.le_of_ble_eq_true rfl) (Nat.le_of_ble_eq_true rfl) (Nat.le_of_ble_eq_true rfl) hlocks (fun t _ hz hk => ⟨(), trivial, ⟨Or.inr ⟨rfl, by simp only [ep_kput, ↓reduceIte, not_true_eq_false, not_false_eq_true, c_2, c_8, c_28, c_39]⟩, (ey_keptX hP9 hD9 hS hz hk).1⟩, (ey_keptX hP9 hD9 hS hz hk).2⟩) hS.2.2 (Nat.le_of_ble_eq_true rfl) (Nat.le_of_ble_eq_true rfl)
    · have hP9 : va_P (dC, dI) vwCl [(d0, .inr (3, [.ref pl, .ref tp, .ref wi, .ref pg, .ref te, .ref nw, .ref nx])), (pl, .inr (1, [.ref pb, .int dn, .int wr, .int pw])), (tp, .inr (2, [.ref tb, .int ln])), (tb, .inl (cB, nt, .inl tf))] _ := ey_P (is := [0, 1, 2, 3]) hP rfl
      have hD9 : va_D A [(d0, .inr (3, [.ref pl, .ref tp, .ref wi, .ref pg, .ref te, .ref nw, .ref nx])), (pl, .inr (1, [.ref pb, .int dn, .int wr, .int pw])), (tp, .inr (2, [.ref tb, .int ln])), (tb, .inl (cB, nt, .inl tf))] := hD.sub [0, 1, 2, 3] (by decide) rfl
      obtain ⟨sa9, hstr9⟩ := ex_str (k := 57) (t := "n is not 1 .. 8") hG (by decide +kernel)
      exact vx_throwS (names := ["java/lang/RuntimeException", "java/lang/Exception"]) hx hb hl9 hown (by decide +kernel) (by decide +kernel) (hts _ ew_190) (hts _ ew_22) hstr9 (ex_hatA hG hts) ex_goodA hZ.1 hZ.2 hS (by rw [hml]; exact hl.1) d_D_put_11 d_D_put_14 d_D_put_15 d_D_put_17 d_D_put_20 (fun x h9 => (hno x h9).elim) (Nat.le_of_ble_eq_true rfl) (Nat.le_of_ble_eq_true rfl) (Nat.le_of_ble_eq_true rfl) (Nat.le_of_ble_eq_true rfl) hlocks (fun t _ hz hk => ⟨(), trivial, ⟨Or.inl ⟨rfl, by simp only [ep_kput, ↓reduceIte, not_true_eq_false, not_false_eq_true, c_2, c_8]⟩, (ey_keptX hP9 hD9 hS hz hk).1⟩, (ey_keptX hP9 hD9 hS hz hk).2⟩) hS.2.2 (Nat.le_of_ble_eq_true rfl) (Nat.le_of_ble_eq_true rfl)
set_option maxHeartbeats 4000000 in
set_option maxRecDepth 100000 in
theorem c_ed_fill_L {p : Program} {l : Launch} {e : Env} {s : State} {m : MethodId} {args : Array Value} {below : List Frame} {meth : Method} {c : Code} {dC : Nat → ClassId} {dI : Nat → Nat → Nat} {cI cB cJ cZ : ClassId} {A : Nat → Prop} {d0 pl tp wi pg te nw nx : Nat} {pb : Nat} {dn wr pw : Int32} {tb : Nat} {ln : Int32} {nt : Nat} {tf : ep_F} {b x : Int32} (hnt : nt < 2 ^ 30) (hk0 : ep_kfill dn nt ln x = 0) (hx9 : ¬ x < 0) (hK : va_K (dC, dI) vwCl (ey_kt cI cB cJ cZ) s) (hG : ex_G s) (C0 : ey_Cx p s m args meth c b_D_fill 4 R_D ew_T (some .int) A)  :
    ∀ (fuel : Nat) (i : Nat) (q : ep_T) (hi : i + fuel = x.toNatClampNeg + 1) (hin : i ≤ x.toNatClampNeg) (hu : ep_fll nt b x fuel i q = ep_fll nt b x (x.toNatClampNeg + 1) 0 (tf, ln)), ∀ (H : Heap) (locs : List Loc), va_P (dC, dI) vwCl [(d0, .inr (3, [.ref pl, .ref tp, .ref wi, .ref pg, .ref te, .ref nw, .ref nx])), (pl, .inr (1, [.ref pb, .int dn, .int wr, .int pw])), (tp, .inr (2, [.ref tb, .int q.2])), (tb, .inl (cB, nt, .inl q.1))] H → va_D A [(d0, .inr (3, [.ref pl, .ref tp, .ref wi, .ref pg, .ref te, .ref nw, .ref nx])), (pl, .inr (1, [.ref pb, .int dn, .int wr, .int pw])), (tp, .inr (2, [.ref tb, .int q.2])), (tb, .inl (cB, nt, .inl q.1))] → va_S A s.heap H locs → ∀ (ls : Array Slot), lv_has ls 4 [(0, .ref d0), (1, .int b), (2, .int x), (3, .int (nI i))] → W p l e { frames := 6, cells := 1, slots := 6, locals := 90 } s m args below meth c H locs 0 0 (vx_MQ below (va_Qi (fun (r : Int32) (u : ep_T) => ep_kfill dn nt ln x = 0 ∧ r = u.2 ∧ u = ep_fll nt b x (x.toNatClampNeg + 1) 0 (tf, ln)) (fun u t => ey_Post (dC, dI) vwCl A ((fun (u : ep_T) => [(d0, .inr (3, [.ref pl, .ref tp, .ref wi, .ref pg, .ref te, .ref nw, .ref nx])), (pl, .inr (1, [.ref pb, .int dn, .int wr, .int pw])), (tp, .inr (2, [.ref tb, .int u.2])), (tb, .inl (cB, nt, .inl u.1))]) u) t) A) (vx_X (fun _ : Unit => True) (fun E _ t => (fun E => (E = "java/lang/IllegalArgumentException" ∧ ep_kfill dn nt ln x = 1) ∨ (E = "java/lang/IllegalStateException" ∧ ep_kfill dn nt ln x = 2)) E ∧ ey_Post (dC, dI) vwCl A [(d0, .inr (3, [.ref pl, .ref tp, .ref wi, .ref pg, .ref te, .ref nw, .ref nx])), (pl, .inr (1, [.ref pb, .int dn, .int wr, .int pw])), (tp, .inr (2, [.ref tb, .int ln])), (tb, .inl (cB, nt, .inl tf))] t) A) args s 1 6 A) (F0 m 54 ls []) := by
  obtain ⟨hx, hb, hml, hown, hts, hr, hlocks, hA⟩ := id C0
  intro fuel
  induction fuel with
  | zero =>
    intro i q hi hin hu H locs hP hD hS ls hl
    exact absurd hi (by omega)
  | succ fuel ih =>
    intro i q hi hin hu H locs hP hD hS ls hl
    refine lv_iload_n hx hb d_D_fill_54 rfl (lv_at hl 3 rfl) ?_
    refine lv_iload_n hx hb d_D_fill_55 rfl (lv_at hl 2 rfl) ?_
    refine lv_icmp_ge (tgt := 76) hx hb d_D_fill_56 (by decide) (fun c_56 => ?_) (fun c_56 => ?_)
    · refine lv_aload_n hx hb d_D_fill_76 rfl (lv_at hl 0 rfl) ?_
      refine va_get (D := (dC, dI)) (ci := 3) (v := .ref tp) (C := R_D) (T := T_D) (N := 7) hx hb hts in_D hown hK hP 0 rfl rfl 1 (by decide) (hts _ ew_110) (fun _ h9 => h9) rfl d_D_fill_77 ?_
      refine va_get (D := (dC, dI)) (ci := 2) (v := .int q.2) (C := R_Tp) (T := T_Tp) (N := 2) hx hb hts in_Tp hown hK hP 2 rfl rfl 1 (by decide) (hts _ ew_71) (fun _ h9 => h9) rfl d_D_fill_80 ?_
      refine vx_ret ?_
      exact ey_iret (W1 := fun (u : ep_T) => [(d0, .inr (3, [.ref pl, .ref tp, .ref wi, .ref pg, .ref te, .ref nw, .ref nx])), (pl, .inr (1, [.ref pb, .int dn, .int wr, .int pw])), (tp, .inr (2, [.ref tb, .int u.2])), (tb, .inl (cB, nt, .inl u.1))]) hx hb hr hlocks hP hD hS q [0, 1, 2, 3] rfl (by decide) (⟨hk0, rfl, by rw [← hu]; simp only [ep_fll, ↓reduceIte, c_56]⟩) d_D_fill_83 (Nat.le_of_ble_eq_true rfl) (Nat.le_of_ble_eq_true rfl)
    · refine lv_aload_n hx hb d_D_fill_59 rfl (lv_at hl 0 rfl) ?_
      refine va_get (D := (dC, dI)) (ci := 3) (v := .ref tp) (C := R_D) (T := T_D) (N := 7) hx hb hts in_D hown hK hP 0 rfl rfl 1 (by decide) (hts _ ew_110) (fun _ h9 => h9) rfl d_D_fill_60 ?_
      refine lv_iload_n hx hb d_D_fill_63 rfl (lv_at hl 1 rfl) ?_
      refine lv_iload_n hx hb d_D_fill_64 rfl (lv_at hl 3 rfl) ?_
      refine lv_iadd hx hb d_D_fill_65 ?_
      refine lv_i2b (v := (b + (nI i)).toInt8.toInt32) hx hb d_D_fill_66 rfl ?_
      refine ey_Vv (Wc := [(tp, .inr (2, [.ref tb, .int q.2])), (tb, .inl (cB, nt, .inl q.1))]) (wr := [(d0, .inr (3, [.ref pl, .ref tp, .ref wi, .ref pg, .ref te, .ref nw, .ref nx])), (pl, .inr (1, [.ref pb, .int dn, .int wr, .int pw]))]) (As := [.int ((b + (nI i)).toInt8.toInt32)]) (rest := []) ⟨hx, hb, hml, hown, hts⟩ (c_tp_app l dC dI cI cB cJ cZ tp tb q.2 nt q.1 ((b + (nI i)).toInt8.toInt32) (by omega)) (cwV 1 hts (ew_V ew_276 ew_277 ew_278 ew_16 g_Tp_append) rfl rfl rfl (by decide +kernel) ⟨Nat.le_of_ble_eq_true rfl, Nat.le_of_ble_eq_true rfl⟩) hK hG hP hD hS hA [2, 3] [0, 1] rfl rfl (by decide) (by decide) (by decide) (ci := 2) (q0 := 0) rfl rfl rfl hl.1 rfl (Nat.le_of_ble_eq_true rfl) d_D_fill_67 ⟨Nat.le_of_ble_eq_true rfl, Nat.le_of_ble_eq_true rfl⟩ (fun u_2 H locs e_3 hP hD hS => ?_)
      have hP : va_P (dC, dI) vwCl [(d0, .inr (3, [.ref pl, .ref tp, .ref wi, .ref pg, .ref te, .ref nw, .ref nx])), (pl, .inr (1, [.ref pb, .int dn, .int wr, .int pw])), (tp, .inr (2, [.ref tb, .int u_2.2])), (tb, .inl (cB, nt, .inl u_2.1))] H := hP
      have hD : va_D A [(d0, .inr (3, [.ref pl, .ref tp, .ref wi, .ref pg, .ref te, .ref nw, .ref nx])), (pl, .inr (1, [.ref pb, .int dn, .int wr, .int pw])), (tp, .inr (2, [.ref tb, .int u_2.2])), (tb, .inl (cB, nt, .inl u_2.1))] := hD
      subst e_3
      refine lv_iinc (v := nI (i + 1)) (lv' := [(3, .int (nI (i + 1))), (0, .ref d0), (1, .int b), (2, .int x)]) hx hb d_D_fill_70 hl (k := 3) rfl (nI_1 i) (by decide) rfl (fun ls hl => ?_)
      refine lv_goto (tgt := 54) hx hb d_D_fill_73 (by decide) ?_
      exact ih (i + 1) (ep_app nt q (b + nI i).toInt8.toInt32) (by omega) (ey_fl_i hx9 hin c_56) (by rw [← hu]; simp only [ep_fll, ↓reduceIte, c_56]) _ _ hP hD hS ls (lv_sub hl [1, 2, 3, 0] rfl)
set_option maxHeartbeats 4000000 in
set_option maxRecDepth 100000 in
theorem c_ed_fill (l : Launch) (dC : Nat → ClassId) (dI : Nat → Nat → Nat) (cI cB cJ cZ : ClassId) (hl9 : l.stackTraces = false) (d0 pl tp wi pg te nw nx : Nat) (pb : Nat) (dn wr pw : Int32) (tb : Nat) (ln : Int32) (nt : Nat) (tf : ep_F) (b x : Int32) (hnt : nt < 2 ^ 30) : ey_Xi l y_D_fill w_D_fill { frames := 6, cells := 1, slots := 6, locals := 90 } (dC, dI) vwCl (ey_kt cI cB cJ cZ) [.ref d0, .int b, .int x] [(d0, .inr (3, [.ref pl, .ref tp, .ref wi, .ref pg, .ref te, .ref nw, .ref nx])), (pl, .inr (1, [.ref pb, .int dn, .int wr, .int pw])), (tp, .inr (2, [.ref tb, .int ln])), (tb, .inl (cB, nt, .inl tf))] (fun (r : Int32) (u : ep_T) => ep_kfill dn nt ln x = 0 ∧ r = u.2 ∧ u = ep_fll nt b x (x.toNatClampNeg + 1) 0 (tf, ln)) (fun (u : ep_T) => [(d0, .inr (3, [.ref pl, .ref tp, .ref wi, .ref pg, .ref te, .ref nw, .ref nx])), (pl, .inr (1, [.ref pb, .int dn, .int wr, .int pw])), (tp, .inr (2, [.ref tb, .int u.2])), (tb, .inl (cB, nt, .inl u.1))]) (fun E => (E = "java/lang/IllegalArgumentException" ∧ ep_kfill dn nt ln x = 1) ∨ (E = "java/lang/IllegalStateException" ∧ ep_kfill dn nt ln x = 2)) 1 6 := by
  intro sz
  refine vx_ofW (cc := b_D_fill) (maxL := 4) (ret := (some .int)) (by decide) rfl ?_
  intro p e s m args below meth c s₁ B hml hno hv
  obtain ⟨rfl, hZ, hsz, hP, hK, hG, hD0⟩ := hv
  have hx := B.exec
  have hb := B.bytes
  have hr := B.returns
  have hts := fun (w : Cond) (h : w ∈ ew_T) => atoms_spec (ws := w_D_fill) B.pre w (List.mem_cons_of_mem _ h)
  have hown : s.vm.findClass R_D = some m.cls := findClass_of_methodNamed B.named
  have hlocks := B.notSynchronized
  subst hsz
  have hD := hD0.self (sz := s.heap.size)
  generalize hAe : va_A [(d0, .inr (3, [.ref pl, .ref tp, .ref wi, .ref pg, .ref te, .ref nw, .ref nx])), (pl, .inr (1, [.ref pb, .int dn, .int wr, .int pw])), (tp, .inr (2, [.ref tb, .int ln])), (tb, .inl (cB, nt, .inl tf))] s.heap.size = A at hD hZ ⊢
  have hA : ∀ q : Nat, s.heap.size ≤ q → A q := fun q h => by rw [← hAe]; exact Or.inr h
  have hS : va_S A s.heap s.heap [] := va_S.rf
  have hP : va_P (dC, dI) vwCl [(d0, .inr (3, [.ref pl, .ref tp, .ref wi, .ref pg, .ref te, .ref nw, .ref nx])), (pl, .inr (1, [.ref pb, .int dn, .int wr, .int pw])), (tp, .inr (2, [.ref tb, .int ln])), (tb, .inl (cB, nt, .inl tf))] s.heap := hP
  have hl := lv_entry ([.ref d0, .int b, .int x]) (n := 4) (Nat.le_of_ble_eq_true rfl)
  rw [lg_entry_eq]
  generalize (lg_sl ([.ref d0, .int b, .int x]) ++ List.replicate (4 - (lg_sl ([.ref d0, .int b, .int x])).length) Slot.unset).toArray = ls at hl ⊢
  have hl : lv_has ls 4 [(0, .ref d0), (1, .int b), (2, .int x)] := hl
  have C0 : ey_Cx p s m [.ref d0, .int b, .int x].toArray meth c b_D_fill 4 R_D ew_T (some .int) A := ⟨hx, hb, hml, hown, hts, hr, hlocks, hA⟩
  refine lv_iload_n hx hb d_D_fill_0 rfl (lv_at hl 2 rfl) ?_
  refine lv_iconst (v := 1) hx hb d_D_fill_1 (by decide) ?_
  refine lv_icmp_lt (tgt := 11) hx hb d_D_fill_2 (by decide) (fun c_2 => ?_) (fun c_2 => ?_)
  · have hP9 : va_P (dC, dI) vwCl [(d0, .inr (3, [.ref pl, .ref tp, .ref wi, .ref pg, .ref te, .ref nw, .ref nx])), (pl, .inr (1, [.ref pb, .int dn, .int wr, .int pw])), (tp, .inr (2, [.ref tb, .int ln])), (tb, .inl (cB, nt, .inl tf))] _ := ey_P (is := [0, 1, 2, 3]) hP rfl
    have hD9 : va_D A [(d0, .inr (3, [.ref pl, .ref tp, .ref wi, .ref pg, .ref te, .ref nw, .ref nx])), (pl, .inr (1, [.ref pb, .int dn, .int wr, .int pw])), (tp, .inr (2, [.ref tb, .int ln])), (tb, .inl (cB, nt, .inl tf))] := hD.sub [0, 1, 2, 3] (by decide) rfl
    obtain ⟨sa9, hstr9⟩ := ex_str (k := 84) (t := "n is not 1 .. 100000") hG (by decide +kernel)
    exact vx_throwS (names := ["java/lang/RuntimeException", "java/lang/Exception"]) hx hb hl9 hown (by decide +kernel) (by decide +kernel) (hts _ ew_190) (hts _ ew_22) hstr9 (ex_hatA hG hts) ex_goodA hZ.1 hZ.2 hS (by rw [hml]; exact hl.1) d_D_fill_11 d_D_fill_14 d_D_fill_15 d_D_fill_17 d_D_fill_20 (fun x h9 => (hno x h9).elim) (Nat.le_of_ble_eq_true rfl) (Nat.le_of_ble_eq_true rfl) (Nat.le_of_ble_eq_true rfl) (Nat.le_of_ble_eq_true rfl) hlocks (fun t _ hz hk => ⟨(), trivial, ⟨Or.inl ⟨rfl, by simp only [ep_kfill, ↓reduceIte, not_true_eq_false, not_false_eq_true, c_2]⟩, (ey_keptX hP9 hD9 hS hz hk).1⟩, (ey_keptX hP9 hD9 hS hz hk).2⟩) hS.2.2 (Nat.le_of_ble_eq_true rfl) (Nat.le_of_ble_eq_true rfl)
  · refine lv_iload_n hx hb d_D_fill_5 rfl (lv_at hl 2 rfl) ?_
    refine lv_ldc hx hb hown (hts _ ew_287) d_D_fill_6 ?_
    refine lv_icmp_le (tgt := 21) hx hb d_D_fill_8 (by decide) (fun c_8 => ?_) (fun c_8 => ?_)
    · refine lv_aload_n hx hb d_D_fill_21 rfl (lv_at hl 0 rfl) ?_
      refine va_get (D := (dC, dI)) (ci := 3) (v := .ref pl) (C := R_D) (T := T_D) (N := 7) hx hb hts in_D hown hK hP 0 rfl rfl 0 (by decide) (hts _ ew_109) (fun _ h9 => h9) rfl d_D_fill_22 ?_
      refine va_get (D := (dC, dI)) (ci := 1) (v := .int dn) (C := R_P) (T := T_P) (N := 4) hx hb hts in_P hown hK hP 1 rfl rfl 1 (by decide) (hts _ ew_48) (fun _ h9 => h9) rfl d_D_fill_25 ?_
      refine lv_if_ne (tgt := 42) hx hb d_D_fill_28 (by decide) (fun c_28 => ?_) (fun c_28 => ?_)
      · have hP9 : va_P (dC, dI) vwCl [(d0, .inr (3, [.ref pl, .ref tp, .ref wi, .ref pg, .ref te, .ref nw, .ref nx])), (pl, .inr (1, [.ref pb, .int dn, .int wr, .int pw])), (tp, .inr (2, [.ref tb, .int ln])), (tb, .inl (cB, nt, .inl tf))] _ := ey_P (is := [0, 1, 2, 3]) hP rfl
        have hD9 : va_D A [(d0, .inr (3, [.ref pl, .ref tp, .ref wi, .ref pg, .ref te, .ref nw, .ref nx])), (pl, .inr (1, [.ref pb, .int dn, .int wr, .int pw])), (tp, .inr (2, [.ref tb, .int ln])), (tb, .inl (cB, nt, .inl tf))] := hD.sub [0, 1, 2, 3] (by decide) rfl
        obtain ⟨sa9, hstr9⟩ := ex_str (k := 72) (t := "the store is down, or the tape has no room") hG (by decide +kernel)
        exact vx_throwS (names := ["java/lang/RuntimeException", "java/lang/Exception"]) hx hb hl9 hown (by decide +kernel) (by decide +kernel) (hts _ ew_260) (hts _ ew_23) hstr9 (ex_hatS hG hts) ex_goodS hZ.1 hZ.2 hS (by rw [hml]; exact hl.1) d_D_fill_42 d_D_fill_45 d_D_fill_46 d_D_fill_48 d_D_fill_51 (fun x h9 => (hno x h9).elim) (Nat.le_of_ble_eq_true rfl) (Nat.le_of_ble_eq_true rfl) (Nat.le_of_ble_eq_true rfl) (Nat.le_of_ble_eq_true rfl) hlocks (fun t _ hz hk => ⟨(), trivial, ⟨Or.inr ⟨rfl, by simp only [ep_kfill, ↓reduceIte, not_true_eq_false, not_false_eq_true, c_2, c_8, c_28]⟩, (ey_keptX hP9 hD9 hS hz hk).1⟩, (ey_keptX hP9 hD9 hS hz hk).2⟩) hS.2.2 (Nat.le_of_ble_eq_true rfl) (Nat.le_of_ble_eq_true rfl)
      · refine lv_aload_n hx hb d_D_fill_31 rfl (lv_at hl 0 rfl) ?_
        refine va_get (D := (dC, dI)) (ci := 3) (v := .ref tp) (C := R_D) (T := T_D) (N := 7) hx hb hts in_D hown hK hP 0 rfl rfl 1 (by decide) (hts _ ew_110) (fun _ h9 => h9) rfl d_D_fill_32 ?_
        refine lv_iload_n hx hb d_D_fill_35 rfl (lv_at hl 2 rfl) ?_
        refine ey_Vi (Wc := [(tp, .inr (2, [.ref tb, .int ln])), (tb, .inl (cB, nt, .inl tf))]) (wr := [(d0, .inr (3, [.ref pl, .ref tp, .ref wi, .ref pg, .ref te, .ref nw, .ref nx])), (pl, .inr (1, [.ref pb, .int dn, .int wr, .int pw]))]) (As := [.int x]) (rest := []) ⟨hx, hb, hml, hown, hts⟩ (c_tp_room l dC dI cI cB cJ cZ tp tb ln nt tf x) (cwV 1 hts (ew_V ew_256 ew_257 ew_258 ew_16 g_Tp_hasRoomFor) rfl rfl rfl (by decide +kernel) ⟨Nat.le_of_ble_eq_true rfl, Nat.le_of_ble_eq_true rfl⟩) hK hG hP hD hS hA [2, 3] [0, 1] rfl rfl (by decide) (by decide) (by decide) (ci := 2) (q0 := 0) rfl rfl rfl hl.1 rfl (Nat.le_of_ble_eq_true rfl) d_D_fill_36 ⟨Nat.le_of_ble_eq_true rfl, Nat.le_of_ble_eq_true rfl⟩ (fun r_1 u_2 H locs e_3 hP hD hS => ?_)
        have hP : va_P (dC, dI) vwCl [(d0, .inr (3, [.ref pl, .ref tp, .ref wi, .ref pg, .ref te, .ref nw, .ref nx])), (pl, .inr (1, [.ref pb, .int dn, .int wr, .int pw])), (tp, .inr (2, [.ref tb, .int ln])), (tb, .inl (cB, nt, .inl tf))] H := hP
        have hD : va_D A [(d0, .inr (3, [.ref pl, .ref tp, .ref wi, .ref pg, .ref te, .ref nw, .ref nx])), (pl, .inr (1, [.ref pb, .int dn, .int wr, .int pw])), (tp, .inr (2, [.ref tb, .int ln])), (tb, .inl (cB, nt, .inl tf))] := hD
        subst e_3
        refine lv_if_ne (tgt := 52) hx hb d_D_fill_39 (by decide) (fun c_39 => ?_) (fun c_39 => ?_)
        · refine lv_iconst (v := nI 0) hx hb d_D_fill_52 (by decide) ?_
          refine lv_istore_n (lv' := [(3, .int (nI 0)), (0, .ref d0), (1, .int b), (2, .int x)]) hx hb d_D_fill_53 rfl hl (by decide) rfl (fun ls hl => ?_)
          have hk0 : ep_kfill dn nt ln x = 0 := by simp only [ep_kfill, ↓reduceIte, not_true_eq_false, not_false_eq_true, c_2, c_8, c_28, c_39]
          exact c_ed_fill_L (d0 := d0) (pl := pl) (tp := tp) (wi := wi) (pg := pg) (te := te) (nw := nw) (nx := nx) (pb := pb) (dn := dn) (wr := wr) (pw := pw) (tb := tb) (ln := ln) (nt := nt) (tf := tf) (b := b) (x := x) hnt hk0 (ey_fl_x c_2) hK hG C0 (x.toNatClampNeg + 1) 0 (tf, ln) (by omega) (by omega) rfl _ _ hP hD hS ls (lv_sub hl [1, 2, 3, 0] rfl)
        · have hP9 : va_P (dC, dI) vwCl [(d0, .inr (3, [.ref pl, .ref tp, .ref wi, .ref pg, .ref te, .ref nw, .ref nx])), (pl, .inr (1, [.ref pb, .int dn, .int wr, .int pw])), (tp, .inr (2, [.ref tb, .int ln])), (tb, .inl (cB, nt, .inl tf))] _ := ey_P (is := [0, 1, 2, 3]) hP rfl
          have hD9 : va_D A [(d0, .inr (3, [.ref pl, .ref tp, .ref wi, .ref pg, .ref te, .ref nw, .ref nx])), (pl, .inr (1, [.ref pb, .int dn, .int wr, .int pw])), (tp, .inr (2, [.ref tb, .int ln])), (tb, .inl (cB, nt, .inl tf))] := hD.sub [0, 1, 2, 3] (by decide) rfl
          obtain ⟨sa9, hstr9⟩ := ex_str (k := 72) (t := "the store is down, or the tape has no room") hG (by decide +kernel)
          exact vx_throwS (names := ["java/lang/RuntimeException", "java/lang/Exception"]) hx hb hl9 hown (by decide +kernel) (by decide +kernel) (hts _ ew_260) (hts _ ew_23) hstr9 (ex_hatS hG hts) ex_goodS hZ.1 hZ.2 hS (by rw [hml]; exact hl.1) d_D_fill_42 d_D_fill_45 d_D_fill_46 d_D_fill_48 d_D_fill_51 (fun x h9 => (hno x h9).elim) (Nat.le_of_ble_eq_true rfl) (Nat.le_of_ble_eq_true rfl) (Nat.le_of_ble_eq_true rfl) (Nat.le_of_ble_eq_true rfl) hlocks (fun t _ hz hk => ⟨(), trivial, ⟨Or.inr ⟨rfl, by simp only [ep_kfill, ↓reduceIte, not_true_eq_false, not_false_eq_true, c_2, c_8, c_28, c_39]⟩, (ey_keptX hP9 hD9 hS hz hk).1⟩, (ey_keptX hP9 hD9 hS hz hk).2⟩) hS.2.2 (Nat.le_of_ble_eq_true rfl) (Nat.le_of_ble_eq_true rfl)
    · have hP9 : va_P (dC, dI) vwCl [(d0, .inr (3, [.ref pl, .ref tp, .ref wi, .ref pg, .ref te, .ref nw, .ref nx])), (pl, .inr (1, [.ref pb, .int dn, .int wr, .int pw])), (tp, .inr (2, [.ref tb, .int ln])), (tb, .inl (cB, nt, .inl tf))] _ := ey_P (is := [0, 1, 2, 3]) hP rfl
      have hD9 : va_D A [(d0, .inr (3, [.ref pl, .ref tp, .ref wi, .ref pg, .ref te, .ref nw, .ref nx])), (pl, .inr (1, [.ref pb, .int dn, .int wr, .int pw])), (tp, .inr (2, [.ref tb, .int ln])), (tb, .inl (cB, nt, .inl tf))] := hD.sub [0, 1, 2, 3] (by decide) rfl
      obtain ⟨sa9, hstr9⟩ := ex_str (k := 84) (t := "n is not 1 .. 100000") hG (by decide +kernel)
      exact vx_throwS (names := ["java/lang/RuntimeException", "java/lang/Exception"]) hx hb hl9 hown (by decide +kernel) (by decide +kernel) (hts _ ew_190) (hts _ ew_22) hstr9 (ex_hatA hG hts) ex_goodA hZ.1 hZ.2 hS (by rw [hml]; exact hl.1) d_D_fill_11 d_D_fill_14 d_D_fill_15 d_D_fill_17 d_D_fill_20 (fun x h9 => (hno x h9).elim) (Nat.le_of_ble_eq_true rfl) (Nat.le_of_ble_eq_true rfl) (Nat.le_of_ble_eq_true rfl) (Nat.le_of_ble_eq_true rfl) hlocks (fun t _ hz hk => ⟨(), trivial, ⟨Or.inl ⟨rfl, by simp only [ep_kfill, ↓reduceIte, not_true_eq_false, not_false_eq_true, c_2, c_8]⟩, (ey_keptX hP9 hD9 hS hz hk).1⟩, (ey_keptX hP9 hD9 hS hz hk).2⟩) hS.2.2 (Nat.le_of_ble_eq_true rfl) (Nat.le_of_ble_eq_true rfl)
end
section
set_option maxHeartbeats 4000000 in
set_option maxRecDepth 100000 in
theorem c_ed_isDown (l : Launch) (dC : Nat → ClassId) (dI : Nat → Nat → Nat) (cI cB cJ cZ : ClassId) (d0 pl tp wi pg te nw nx : Nat) (pb : Nat) (dn wr pw : Int32) (hdn : dn = 0 ∨ dn = 1) : ey_Mi l y_D_isDown w_D_isDown { frames := 0, cells := 0, slots := 0, locals := 0 } (dC, dI) vwCl (ey_kt cI cB cJ cZ) [.ref d0] [(d0, .inr (3, [.ref pl, .ref tp, .ref wi, .ref pg, .ref te, .ref nw, .ref nx])), (pl, .inr (1, [.ref pb, .int dn, .int wr, .int pw]))] (fun (r : Int32) (u : Unit) => r = dn) (fun (u : Unit) => [(d0, .inr (3, [.ref pl, .ref tp, .ref wi, .ref pg, .ref te, .ref nw, .ref nx])), (pl, .inr (1, [.ref pb, .int dn, .int wr, .int pw]))]) 0 0 := by
  intro sz
  refine Met.ofW (cc := b_D_isDown) (maxL := 1) (ret := (some .boolean)) (by decide) rfl ?_
  intro p e s m args below meth c s₁ B hml hv
  obtain ⟨rfl, hsz, hP, hK, hG, hD0⟩ := hv
  have hx := B.exec
  have hb := B.bytes
  have hr := B.returns
  have hts := fun (w : Cond) (h : w ∈ ew_T) => atoms_spec (ws := w_D_isDown) B.pre w (List.mem_cons_of_mem _ h)
  have hown : s.vm.findClass R_D = some m.cls := findClass_of_methodNamed B.named
  have hlocks := B.notSynchronized
  subst hsz
  have hD := hD0.self (sz := s.heap.size)
  generalize hAe : va_A [(d0, .inr (3, [.ref pl, .ref tp, .ref wi, .ref pg, .ref te, .ref nw, .ref nx])), (pl, .inr (1, [.ref pb, .int dn, .int wr, .int pw]))] s.heap.size = A at hD ⊢
  have hA : ∀ q : Nat, s.heap.size ≤ q → A q := fun q h => by rw [← hAe]; exact Or.inr h
  have hS : va_S A s.heap s.heap [] := va_S.rf
  have hP : va_P (dC, dI) vwCl [(d0, .inr (3, [.ref pl, .ref tp, .ref wi, .ref pg, .ref te, .ref nw, .ref nx])), (pl, .inr (1, [.ref pb, .int dn, .int wr, .int pw]))] s.heap := hP
  have hl := lv_entry ([.ref d0]) (n := 1) (Nat.le_of_ble_eq_true rfl)
  rw [lg_entry_eq]
  generalize (lg_sl ([.ref d0]) ++ List.replicate (1 - (lg_sl ([.ref d0])).length) Slot.unset).toArray = ls at hl ⊢
  have hl : lv_has ls 1 [(0, .ref d0)] := hl
  refine lv_aload_n hx hb d_D_isDown_0 rfl (lv_at hl 0 rfl) ?_
  refine va_get (D := (dC, dI)) (ci := 3) (v := .ref pl) (C := R_D) (T := T_D) (N := 7) hx hb hts in_D hown hK hP 0 rfl rfl 0 (by decide) (hts _ ew_109) (fun _ h9 => h9) rfl d_D_isDown_1 ?_
  refine va_get (D := (dC, dI)) (ci := 1) (v := .int dn) (C := R_P) (T := T_P) (N := 4) hx hb hts in_P hown hK hP 1 rfl rfl 1 (by decide) (hts _ ew_48) (fun _ h9 => h9) rfl d_D_isDown_4 ?_
  exact ey_zret (W1 := fun (u : Unit) => [(d0, .inr (3, [.ref pl, .ref tp, .ref wi, .ref pg, .ref te, .ref nw, .ref nx])), (pl, .inr (1, [.ref pb, .int dn, .int wr, .int pw]))]) hx hb hr hlocks hP hD hS () [0, 1] rfl (by decide) rfl d_D_isDown_7 (Nat.le_of_ble_eq_true rfl) (Nat.le_of_ble_eq_true rfl) (by rcases hdn with h | h <;> rw [h] <;> rfl)
set_option maxHeartbeats 4000000 in
set_option maxRecDepth 100000 in
theorem c_ed_writes (l : Launch) (dC : Nat → ClassId) (dI : Nat → Nat → Nat) (cI cB cJ cZ : ClassId) (d0 pl tp wi pg te nw nx : Nat) (pb : Nat) (dn wr pw : Int32) : ey_Mi l y_D_writes w_D_writes { frames := 0, cells := 0, slots := 0, locals := 0 } (dC, dI) vwCl (ey_kt cI cB cJ cZ) [.ref d0] [(d0, .inr (3, [.ref pl, .ref tp, .ref wi, .ref pg, .ref te, .ref nw, .ref nx])), (pl, .inr (1, [.ref pb, .int dn, .int wr, .int pw]))] (fun (r : Int32) (u : Unit) => r = wr) (fun (u : Unit) => [(d0, .inr (3, [.ref pl, .ref tp, .ref wi, .ref pg, .ref te, .ref nw, .ref nx])), (pl, .inr (1, [.ref pb, .int dn, .int wr, .int pw]))]) 0 0 := by
  intro sz
  refine Met.ofW (cc := b_D_writes) (maxL := 1) (ret := (some .int)) (by decide) rfl ?_
  intro p e s m args below meth c s₁ B hml hv
  obtain ⟨rfl, hsz, hP, hK, hG, hD0⟩ := hv
  have hx := B.exec
  have hb := B.bytes
  have hr := B.returns
  have hts := fun (w : Cond) (h : w ∈ ew_T) => atoms_spec (ws := w_D_writes) B.pre w (List.mem_cons_of_mem _ h)
  have hown : s.vm.findClass R_D = some m.cls := findClass_of_methodNamed B.named
  have hlocks := B.notSynchronized
  subst hsz
  have hD := hD0.self (sz := s.heap.size)
  generalize hAe : va_A [(d0, .inr (3, [.ref pl, .ref tp, .ref wi, .ref pg, .ref te, .ref nw, .ref nx])), (pl, .inr (1, [.ref pb, .int dn, .int wr, .int pw]))] s.heap.size = A at hD ⊢
  have hA : ∀ q : Nat, s.heap.size ≤ q → A q := fun q h => by rw [← hAe]; exact Or.inr h
  have hS : va_S A s.heap s.heap [] := va_S.rf
  have hP : va_P (dC, dI) vwCl [(d0, .inr (3, [.ref pl, .ref tp, .ref wi, .ref pg, .ref te, .ref nw, .ref nx])), (pl, .inr (1, [.ref pb, .int dn, .int wr, .int pw]))] s.heap := hP
  have hl := lv_entry ([.ref d0]) (n := 1) (Nat.le_of_ble_eq_true rfl)
  rw [lg_entry_eq]
  generalize (lg_sl ([.ref d0]) ++ List.replicate (1 - (lg_sl ([.ref d0])).length) Slot.unset).toArray = ls at hl ⊢
  have hl : lv_has ls 1 [(0, .ref d0)] := hl
  refine lv_aload_n hx hb d_D_writes_0 rfl (lv_at hl 0 rfl) ?_
  refine va_get (D := (dC, dI)) (ci := 3) (v := .ref pl) (C := R_D) (T := T_D) (N := 7) hx hb hts in_D hown hK hP 0 rfl rfl 0 (by decide) (hts _ ew_109) (fun _ h9 => h9) rfl d_D_writes_1 ?_
  refine va_get (D := (dC, dI)) (ci := 1) (v := .int wr) (C := R_P) (T := T_P) (N := 4) hx hb hts in_P hown hK hP 1 rfl rfl 2 (by decide) (hts _ ew_50) (fun _ h9 => h9) rfl d_D_writes_4 ?_
  exact ey_iret (W1 := fun (u : Unit) => [(d0, .inr (3, [.ref pl, .ref tp, .ref wi, .ref pg, .ref te, .ref nw, .ref nx])), (pl, .inr (1, [.ref pb, .int dn, .int wr, .int pw]))]) hx hb hr hlocks hP hD hS () [0, 1] rfl (by decide) rfl d_D_writes_7 (Nat.le_of_ble_eq_true rfl) (Nat.le_of_ble_eq_true rfl)
set_option maxHeartbeats 4000000 in
set_option maxRecDepth 100000 in
theorem c_ed_crash (l : Launch) (dC : Nat → ClassId) (dI : Nat → Nat → Nat) (cI cB cJ cZ : ClassId) (hl9 : l.stackTraces = false) (d0 pl tp wi pg te nw nx : Nat) (pb : Nat) (dn wr pw : Int32) (tb : Nat) (ln : Int32) (n1 n2 n3 n4 : Nat) (ex ch : Int32) (no wf : ep_F) (x : Int32) : ey_Xv l y_D_crash w_D_crash { frames := 6, cells := 1, slots := 6, locals := 90 } (dC, dI) vwCl (ey_kt cI cB cJ cZ) [.ref d0, .int x] [(d0, .inr (3, [.ref pl, .ref tp, .ref wi, .ref pg, .ref te, .ref nw, .ref nx])), (pl, .inr (1, [.ref pb, .int dn, .int wr, .int pw])), (tp, .inr (2, [.ref tb, .int ln])), (nw, .inr (0, [.ref n1, .ref n2, .ref n3, .ref n4, .int ex, .int ch])), (n4, .inl (cI, 24, .inl no)), (wi, .inl (cI, 24, .inl wf))] (fun (u : Int32 × Int32 × Int32 × Int32 × ep_F × ep_F) => ep_kcrash dn x = 0 ∧ u = ep_crash x ln ex ch no wf) (fun (u : Int32 × Int32 × Int32 × Int32 × ep_F × ep_F) => [(d0, .inr (3, [.ref pl, .ref tp, .ref wi, .ref pg, .ref te, .ref nw, .ref nx])), (pl, .inr (1, [.ref pb, .int u.1, .int wr, .int x])), (tp, .inr (2, [.ref tb, .int u.2.1])), (nw, .inr (0, [.ref n1, .ref n2, .ref n3, .ref n4, .int u.2.2.1, .int u.2.2.2.1])), (n4, .inl (cI, 24, .inl u.2.2.2.2.1)), (wi, .inl (cI, 24, .inl u.2.2.2.2.2))]) (fun E => (E = "java/lang/IllegalArgumentException" ∧ ep_kcrash dn x = 1) ∨ (E = "java/lang/IllegalStateException" ∧ ep_kcrash dn x = 2)) 1 6 := by
  intro sz
  refine vx_ofW (cc := b_D_crash) (maxL := 2) (ret := none) (by decide) rfl ?_
  intro p e s m args below meth c s₁ B hml hno hv
  obtain ⟨rfl, hZ, hsz, hP, hK, hG, hD0⟩ := hv
  have hx := B.exec
  have hb := B.bytes
  have hr := B.returns
  have hts := fun (w : Cond) (h : w ∈ ew_T) => atoms_spec (ws := w_D_crash) B.pre w (List.mem_cons_of_mem _ h)
  have hown : s.vm.findClass R_D = some m.cls := findClass_of_methodNamed B.named
  have hlocks := B.notSynchronized
  subst hsz
  have hD := hD0.self (sz := s.heap.size)
  generalize hAe : va_A [(d0, .inr (3, [.ref pl, .ref tp, .ref wi, .ref pg, .ref te, .ref nw, .ref nx])), (pl, .inr (1, [.ref pb, .int dn, .int wr, .int pw])), (tp, .inr (2, [.ref tb, .int ln])), (nw, .inr (0, [.ref n1, .ref n2, .ref n3, .ref n4, .int ex, .int ch])), (n4, .inl (cI, 24, .inl no)), (wi, .inl (cI, 24, .inl wf))] s.heap.size = A at hD hZ ⊢
  have hA : ∀ q : Nat, s.heap.size ≤ q → A q := fun q h => by rw [← hAe]; exact Or.inr h
  have hS : va_S A s.heap s.heap [] := va_S.rf
  have hP : va_P (dC, dI) vwCl [(d0, .inr (3, [.ref pl, .ref tp, .ref wi, .ref pg, .ref te, .ref nw, .ref nx])), (pl, .inr (1, [.ref pb, .int dn, .int wr, .int pw])), (tp, .inr (2, [.ref tb, .int ln])), (nw, .inr (0, [.ref n1, .ref n2, .ref n3, .ref n4, .int ex, .int ch])), (n4, .inl (cI, 24, .inl no)), (wi, .inl (cI, 24, .inl wf))] s.heap := hP
  have hl := lv_entry ([.ref d0, .int x]) (n := 2) (Nat.le_of_ble_eq_true rfl)
  rw [lg_entry_eq]
  generalize (lg_sl ([.ref d0, .int x]) ++ List.replicate (2 - (lg_sl ([.ref d0, .int x])).length) Slot.unset).toArray = ls at hl ⊢
  have hl : lv_has ls 2 [(0, .ref d0), (1, .int x)] := hl
  refine lv_iload_n hx hb d_D_crash_0 rfl (lv_at hl 1 rfl) ?_
  refine lv_iconst (v := (-1)) hx hb d_D_crash_1 (by decide) ?_
  refine lv_icmp_lt (tgt := 12) hx hb d_D_crash_2 (by decide) (fun c_2 => ?_) (fun c_2 => ?_)
  · have hP9 : va_P (dC, dI) vwCl [(d0, .inr (3, [.ref pl, .ref tp, .ref wi, .ref pg, .ref te, .ref nw, .ref nx])), (pl, .inr (1, [.ref pb, .int dn, .int wr, .int pw])), (tp, .inr (2, [.ref tb, .int ln])), (nw, .inr (0, [.ref n1, .ref n2, .ref n3, .ref n4, .int ex, .int ch])), (n4, .inl (cI, 24, .inl no)), (wi, .inl (cI, 24, .inl wf))] _ := ey_P (is := [0, 1, 2, 3, 4, 5]) hP rfl
    have hD9 : va_D A [(d0, .inr (3, [.ref pl, .ref tp, .ref wi, .ref pg, .ref te, .ref nw, .ref nx])), (pl, .inr (1, [.ref pb, .int dn, .int wr, .int pw])), (tp, .inr (2, [.ref tb, .int ln])), (nw, .inr (0, [.ref n1, .ref n2, .ref n3, .ref n4, .int ex, .int ch])), (n4, .inl (cI, 24, .inl no)), (wi, .inl (cI, 24, .inl wf))] := hD.sub [0, 1, 2, 3, 4, 5] (by decide) rfl
    obtain ⟨sa9, hstr9⟩ := ex_str (k := 136) (t := "n is not NONE .. 1000") hG (by decide +kernel)
    exact vx_throwS (names := ["java/lang/RuntimeException", "java/lang/Exception"]) hx hb hl9 hown (by decide +kernel) (by decide +kernel) (hts _ ew_190) (hts _ ew_22) hstr9 (ex_hatA hG hts) ex_goodA hZ.1 hZ.2 hS (by rw [hml]; exact hl.1) d_D_crash_12 d_D_crash_15 d_D_crash_16 d_D_crash_18 d_D_crash_21 (fun x h9 => (hno x h9).elim) (Nat.le_of_ble_eq_true rfl) (Nat.le_of_ble_eq_true rfl) (Nat.le_of_ble_eq_true rfl) (Nat.le_of_ble_eq_true rfl) hlocks (fun t _ hz hk => ⟨(), trivial, ⟨Or.inl ⟨rfl, by simp only [ep_kcrash, ↓reduceIte, not_true_eq_false, not_false_eq_true, c_2]⟩, (ey_keptX hP9 hD9 hS hz hk).1⟩, (ey_keptX hP9 hD9 hS hz hk).2⟩) hS.2.2 (Nat.le_of_ble_eq_true rfl) (Nat.le_of_ble_eq_true rfl)
  · refine lv_iload_n hx hb d_D_crash_5 rfl (lv_at hl 1 rfl) ?_
    refine lv_sipush (v := 1000) hx hb d_D_crash_6 (by decide) ?_
    refine lv_icmp_le (tgt := 22) hx hb d_D_crash_9 (by decide) (fun c_9 => ?_) (fun c_9 => ?_)
    · refine lv_aload_n hx hb d_D_crash_22 rfl (lv_at hl 0 rfl) ?_
      refine va_get (D := (dC, dI)) (ci := 3) (v := .ref pl) (C := R_D) (T := T_D) (N := 7) hx hb hts in_D hown hK hP 0 rfl rfl 0 (by decide) (hts _ ew_109) (fun _ h9 => h9) rfl d_D_crash_23 ?_
      refine va_get (D := (dC, dI)) (ci := 1) (v := .int dn) (C := R_P) (T := T_P) (N := 4) hx hb hts in_P hown hK hP 1 rfl rfl 1 (by decide) (hts _ ew_48) (fun _ h9 => h9) rfl d_D_crash_26 ?_
      refine lv_if_eq (tgt := 42) hx hb d_D_crash_29 (by decide) (fun c_29 => ?_) (fun c_29 => ?_)
      · refine lv_aload_n hx hb d_D_crash_42 rfl (lv_at hl 0 rfl) ?_
        refine va_get (D := (dC, dI)) (ci := 3) (v := .ref pl) (C := R_D) (T := T_D) (N := 7) hx hb hts in_D hown hK hP 0 rfl rfl 0 (by decide) (hts _ ew_109) (fun _ h9 => h9) rfl d_D_crash_43 ?_
        refine lv_iload_n hx hb d_D_crash_46 rfl (lv_at hl 1 rfl) ?_
        refine ey_Vv (Wc := [(pl, .inr (1, [.ref pb, .int dn, .int wr, .int pw]))]) (wr := [(d0, .inr (3, [.ref pl, .ref tp, .ref wi, .ref pg, .ref te, .ref nw, .ref nx])), (tp, .inr (2, [.ref tb, .int ln])), (nw, .inr (0, [.ref n1, .ref n2, .ref n3, .ref n4, .int ex, .int ch])), (n4, .inl (cI, 24, .inl no)), (wi, .inl (cI, 24, .inl wf))]) (As := [.int x]) (rest := []) ⟨hx, hb, hml, hown, hts⟩ (c_pl_limit l dC dI cI cB cJ cZ pl pb dn wr pw x) (cwV 1 hts (ew_V ew_135 ew_136 ew_137 ew_15 g_P_limitPower) rfl rfl rfl (by decide +kernel) ⟨Nat.le_of_ble_eq_true rfl, Nat.le_of_ble_eq_true rfl⟩) hK hG hP hD hS hA [1] [0, 2, 3, 4, 5] rfl rfl (by decide) (by decide) (by decide) (ci := 1) (q0 := 0) rfl rfl rfl hl.1 rfl (Nat.le_of_ble_eq_true rfl) d_D_crash_47 ⟨Nat.le_of_ble_eq_true rfl, Nat.le_of_ble_eq_true rfl⟩ (fun u_2 H locs e_3 hP hD hS => ?_)
        have hP : va_P (dC, dI) vwCl [(d0, .inr (3, [.ref pl, .ref tp, .ref wi, .ref pg, .ref te, .ref nw, .ref nx])), (tp, .inr (2, [.ref tb, .int ln])), (nw, .inr (0, [.ref n1, .ref n2, .ref n3, .ref n4, .int ex, .int ch])), (n4, .inl (cI, 24, .inl no)), (wi, .inl (cI, 24, .inl wf)), (pl, .inr (1, [.ref pb, .int u_2, .int wr, .int x]))] H := hP
        have hD : va_D A [(d0, .inr (3, [.ref pl, .ref tp, .ref wi, .ref pg, .ref te, .ref nw, .ref nx])), (tp, .inr (2, [.ref tb, .int ln])), (nw, .inr (0, [.ref n1, .ref n2, .ref n3, .ref n4, .int ex, .int ch])), (n4, .inl (cI, 24, .inl no)), (wi, .inl (cI, 24, .inl wf)), (pl, .inr (1, [.ref pb, .int u_2, .int wr, .int x]))] := hD
        subst e_3
        refine lv_aload_n hx hb d_D_crash_50 rfl (lv_at hl 0 rfl) ?_
        refine va_get (D := (dC, dI)) (ci := 3) (v := .ref pl) (C := R_D) (T := T_D) (N := 7) hx hb hts in_D hown hK hP 0 rfl rfl 0 (by decide) (hts _ ew_109) (fun _ h9 => h9) rfl d_D_crash_51 ?_
        refine va_get (D := (dC, dI)) (ci := 1) (v := .int (ep_down x)) (C := R_P) (T := T_P) (N := 4) hx hb hts in_P hown hK hP 5 rfl rfl 1 (by decide) (hts _ ew_48) (fun _ h9 => h9) rfl d_D_crash_54 ?_
        refine lv_if_eq (tgt := 64) hx hb d_D_crash_57 (by decide) (fun c_57 => ?_) (fun c_57 => ?_)
        · refine vx_ret ?_
          exact ey_vret (W1 := fun (u : Int32 × Int32 × Int32 × Int32 × ep_F × ep_F) => [(d0, .inr (3, [.ref pl, .ref tp, .ref wi, .ref pg, .ref te, .ref nw, .ref nx])), (pl, .inr (1, [.ref pb, .int u.1, .int wr, .int x])), (tp, .inr (2, [.ref tb, .int u.2.1])), (nw, .inr (0, [.ref n1, .ref n2, .ref n3, .ref n4, .int u.2.2.1, .int u.2.2.2.1])), (n4, .inl (cI, 24, .inl u.2.2.2.2.1)), (wi, .inl (cI, 24, .inl u.2.2.2.2.2))]) hx hb hr hlocks hP hD hS ((ep_down x), ln, ex, ch, no, wf) [0, 5, 1, 2, 3, 4] rfl (by decide) (⟨by simp only [ep_kcrash, ↓reduceIte, not_true_eq_false, not_false_eq_true, c_2, c_9, c_29, c_57], by simp only [ep_crash, ↓reduceIte, not_true_eq_false, not_false_eq_true, c_57]⟩) d_D_crash_64 (Nat.le_of_ble_eq_true rfl) (Nat.le_of_ble_eq_true rfl)
        · refine lv_aload_n hx hb d_D_crash_60 rfl (lv_at hl 0 rfl) ?_
          refine ey_Vv (Wc := [(d0, .inr (3, [.ref pl, .ref tp, .ref wi, .ref pg, .ref te, .ref nw, .ref nx])), (tp, .inr (2, [.ref tb, .int ln])), (nw, .inr (0, [.ref n1, .ref n2, .ref n3, .ref n4, .int ex, .int ch])), (n4, .inl (cI, 24, .inl no)), (wi, .inl (cI, 24, .inl wf))]) (wr := [(pl, .inr (1, [.ref pb, .int (ep_down x), .int wr, .int x]))]) (As := []) (rest := []) ⟨hx, hb, hml, hown, hts⟩ (c_ed_forget l dC dI cI cB cJ cZ d0 pl tp wi pg te nw nx tb ln n1 n2 n3 n4 ex ch no wf) (cwV 0 hts (ew_V ew_351 ew_353 ew_4 ew_13 g_D_forget) rfl rfl rfl (by decide +kernel) ⟨Nat.le_of_ble_eq_true rfl, Nat.le_of_ble_eq_true rfl⟩) hK hG hP hD hS hA [0, 1, 2, 3, 4] [5] rfl rfl (by decide) (by decide) (by decide) (ci := 3) (q0 := 0) rfl rfl rfl hl.1 rfl (Nat.le_of_ble_eq_true rfl) d_D_crash_61 ⟨Nat.le_of_ble_eq_true rfl, Nat.le_of_ble_eq_true rfl⟩ (fun u_5 H locs e_6 hP hD hS => ?_)
          have hP : va_P (dC, dI) vwCl [(pl, .inr (1, [.ref pb, .int (ep_down x), .int wr, .int x])), (d0, .inr (3, [.ref pl, .ref tp, .ref wi, .ref pg, .ref te, .ref nw, .ref nx])), (tp, .inr (2, [.ref tb, .int 0])), (nw, .inr (0, [.ref n1, .ref n2, .ref n3, .ref n4, .int 0, .int 0])), (n4, .inl (cI, 24, .inl u_5.1)), (wi, .inl (cI, 24, .inl u_5.2))] H := hP
          have hD : va_D A [(pl, .inr (1, [.ref pb, .int (ep_down x), .int wr, .int x])), (d0, .inr (3, [.ref pl, .ref tp, .ref wi, .ref pg, .ref te, .ref nw, .ref nx])), (tp, .inr (2, [.ref tb, .int 0])), (nw, .inr (0, [.ref n1, .ref n2, .ref n3, .ref n4, .int 0, .int 0])), (n4, .inl (cI, 24, .inl u_5.1)), (wi, .inl (cI, 24, .inl u_5.2))] := hD
          subst e_6
          refine vx_ret ?_
          exact ey_vret (W1 := fun (u : Int32 × Int32 × Int32 × Int32 × ep_F × ep_F) => [(d0, .inr (3, [.ref pl, .ref tp, .ref wi, .ref pg, .ref te, .ref nw, .ref nx])), (pl, .inr (1, [.ref pb, .int u.1, .int wr, .int x])), (tp, .inr (2, [.ref tb, .int u.2.1])), (nw, .inr (0, [.ref n1, .ref n2, .ref n3, .ref n4, .int u.2.2.1, .int u.2.2.2.1])), (n4, .inl (cI, 24, .inl u.2.2.2.2.1)), (wi, .inl (cI, 24, .inl u.2.2.2.2.2))]) hx hb hr hlocks hP hD hS ((ep_down x), 0, 0, 0, (ep_fill 24 0 no, ep_fill 24 0 wf).1, (ep_fill 24 0 no, ep_fill 24 0 wf).2) [1, 0, 2, 3, 4, 5] rfl (by decide) (⟨by simp only [ep_kcrash, ↓reduceIte, not_true_eq_false, not_false_eq_true, c_2, c_9, c_29, c_57], by simp only [ep_crash, ↓reduceIte, not_true_eq_false, not_false_eq_true, c_57]⟩) d_D_crash_64 (Nat.le_of_ble_eq_true rfl) (Nat.le_of_ble_eq_true rfl)
      · have hP9 : va_P (dC, dI) vwCl [(d0, .inr (3, [.ref pl, .ref tp, .ref wi, .ref pg, .ref te, .ref nw, .ref nx])), (pl, .inr (1, [.ref pb, .int dn, .int wr, .int pw])), (tp, .inr (2, [.ref tb, .int ln])), (nw, .inr (0, [.ref n1, .ref n2, .ref n3, .ref n4, .int ex, .int ch])), (n4, .inl (cI, 24, .inl no)), (wi, .inl (cI, 24, .inl wf))] _ := ey_P (is := [0, 1, 2, 3, 4, 5]) hP rfl
        have hD9 : va_D A [(d0, .inr (3, [.ref pl, .ref tp, .ref wi, .ref pg, .ref te, .ref nw, .ref nx])), (pl, .inr (1, [.ref pb, .int dn, .int wr, .int pw])), (tp, .inr (2, [.ref tb, .int ln])), (nw, .inr (0, [.ref n1, .ref n2, .ref n3, .ref n4, .int ex, .int ch])), (n4, .inl (cI, 24, .inl no)), (wi, .inl (cI, 24, .inl wf))] := hD.sub [0, 1, 2, 3, 4, 5] (by decide) rfl
        obtain ⟨sa9, hstr9⟩ := ex_str (k := 86) (t := "the store is down") hG (by decide +kernel)
        exact vx_throwS (names := ["java/lang/RuntimeException", "java/lang/Exception"]) hx hb hl9 hown (by decide +kernel) (by decide +kernel) (hts _ ew_260) (hts _ ew_23) hstr9 (ex_hatS hG hts) ex_goodS hZ.1 hZ.2 hS (by rw [hml]; exact hl.1) d_D_crash_32 d_D_crash_35 d_D_crash_36 d_D_crash_38 d_D_crash_41 (fun x h9 => (hno x h9).elim) (Nat.le_of_ble_eq_true rfl) (Nat.le_of_ble_eq_true rfl) (Nat.le_of_ble_eq_true rfl) (Nat.le_of_ble_eq_true rfl) hlocks (fun t _ hz hk => ⟨(), trivial, ⟨Or.inr ⟨rfl, by simp only [ep_kcrash, ↓reduceIte, not_true_eq_false, not_false_eq_true, c_2, c_9, c_29]⟩, (ey_keptX hP9 hD9 hS hz hk).1⟩, (ey_keptX hP9 hD9 hS hz hk).2⟩) hS.2.2 (Nat.le_of_ble_eq_true rfl) (Nat.le_of_ble_eq_true rfl)
    · have hP9 : va_P (dC, dI) vwCl [(d0, .inr (3, [.ref pl, .ref tp, .ref wi, .ref pg, .ref te, .ref nw, .ref nx])), (pl, .inr (1, [.ref pb, .int dn, .int wr, .int pw])), (tp, .inr (2, [.ref tb, .int ln])), (nw, .inr (0, [.ref n1, .ref n2, .ref n3, .ref n4, .int ex, .int ch])), (n4, .inl (cI, 24, .inl no)), (wi, .inl (cI, 24, .inl wf))] _ := ey_P (is := [0, 1, 2, 3, 4, 5]) hP rfl
      have hD9 : va_D A [(d0, .inr (3, [.ref pl, .ref tp, .ref wi, .ref pg, .ref te, .ref nw, .ref nx])), (pl, .inr (1, [.ref pb, .int dn, .int wr, .int pw])), (tp, .inr (2, [.ref tb, .int ln])), (nw, .inr (0, [.ref n1, .ref n2, .ref n3, .ref n4, .int ex, .int ch])), (n4, .inl (cI, 24, .inl no)), (wi, .inl (cI, 24, .inl wf))] := hD.sub [0, 1, 2, 3, 4, 5] (by decide) rfl
      obtain ⟨sa9, hstr9⟩ := ex_str (k := 136) (t := "n is not NONE .. 1000") hG (by decide +kernel)
      exact vx_throwS (names := ["java/lang/RuntimeException", "java/lang/Exception"]) hx hb hl9 hown (by decide +kernel) (by decide +kernel) (hts _ ew_190) (hts _ ew_22) hstr9 (ex_hatA hG hts) ex_goodA hZ.1 hZ.2 hS (by rw [hml]; exact hl.1) d_D_crash_12 d_D_crash_15 d_D_crash_16 d_D_crash_18 d_D_crash_21 (fun x h9 => (hno x h9).elim) (Nat.le_of_ble_eq_true rfl) (Nat.le_of_ble_eq_true rfl) (Nat.le_of_ble_eq_true rfl) (Nat.le_of_ble_eq_true rfl) hlocks (fun t _ hz hk => ⟨(), trivial, ⟨Or.inl ⟨rfl, by simp only [ep_kcrash, ↓reduceIte, not_true_eq_false, not_false_eq_true, c_2, c_9]⟩, (ey_keptX hP9 hD9 hS hz hk).1⟩, (ey_keptX hP9 hD9 hS hz hk).2⟩) hS.2.2 (Nat.le_of_ble_eq_true rfl) (Nat.le_of_ble_eq_true rfl)
set_option maxHeartbeats 4000000 in
set_option maxRecDepth 100000 in
theorem c_ed_byte (l : Launch) (dC : Nat → ClassId) (dI : Nat → Nat → Nat) (cI cB cJ cZ : ClassId) (hl9 : l.stackTraces = false) (d0 pl tp wi pg te nw nx : Nat) (pb : Nat) (dn wr pw : Int32) (nb : Nat) (pf : ep_F) (n1 n2 n3 n4 : Nat) (ex ch : Int32) (fi si : ep_F) (x y : Int32) (hnb : nb < 2 ^ 30) : ey_Xi l y_D_byteAt w_D_byteAt { frames := 6, cells := 1, slots := 6, locals := 90 } (dC, dI) vwCl (ey_kt cI cB cJ cZ) [.ref d0, .int x, .int y] [(d0, .inr (3, [.ref pl, .ref tp, .ref wi, .ref pg, .ref te, .ref nw, .ref nx])), (pl, .inr (1, [.ref pb, .int dn, .int wr, .int pw])), (pb, .inl (cB, nb, .inl pf)), (nw, .inr (0, [.ref n1, .ref n2, .ref n3, .ref n4, .int ex, .int ch])), (n2, .inl (cI, 200, .inl fi)), (n3, .inl (cI, 200, .inl si))] (fun (r : Int32) (u : Unit) => ep_kbyte ex x y (si x.toNatClampNeg) = 0 ∧ r = ep_read nb pf (fi x.toNatClampNeg * 4096 + y)) (fun (u : Unit) => [(d0, .inr (3, [.ref pl, .ref tp, .ref wi, .ref pg, .ref te, .ref nw, .ref nx])), (pl, .inr (1, [.ref pb, .int dn, .int wr, .int pw])), (pb, .inl (cB, nb, .inl pf)), (nw, .inr (0, [.ref n1, .ref n2, .ref n3, .ref n4, .int ex, .int ch])), (n2, .inl (cI, 200, .inl fi)), (n3, .inl (cI, 200, .inl si))]) (fun E => (E = "java/lang/IllegalArgumentException" ∧ ep_kbyte ex x y (si x.toNatClampNeg) = 1) ∨ (E = "java/lang/IllegalStateException" ∧ ep_kbyte ex x y (si x.toNatClampNeg) = 2)) 1 6 := by
  intro sz
  refine vx_ofW (cc := b_D_byteAt) (maxL := 3) (ret := (some .int)) (by decide) rfl ?_
  intro p e s m args below meth c s₁ B hml hno hv
  obtain ⟨rfl, hZ, hsz, hP, hK, hG, hD0⟩ := hv
  have hx := B.exec
  have hb := B.bytes
  have hr := B.returns
  have hts := fun (w : Cond) (h : w ∈ ew_T) => atoms_spec (ws := w_D_byteAt) B.pre w (List.mem_cons_of_mem _ h)
  have hown : s.vm.findClass R_D = some m.cls := findClass_of_methodNamed B.named
  have hlocks := B.notSynchronized
  subst hsz
  have hD := hD0.self (sz := s.heap.size)
  generalize hAe : va_A [(d0, .inr (3, [.ref pl, .ref tp, .ref wi, .ref pg, .ref te, .ref nw, .ref nx])), (pl, .inr (1, [.ref pb, .int dn, .int wr, .int pw])), (pb, .inl (cB, nb, .inl pf)), (nw, .inr (0, [.ref n1, .ref n2, .ref n3, .ref n4, .int ex, .int ch])), (n2, .inl (cI, 200, .inl fi)), (n3, .inl (cI, 200, .inl si))] s.heap.size = A at hD hZ ⊢
  have hA : ∀ q : Nat, s.heap.size ≤ q → A q := fun q h => by rw [← hAe]; exact Or.inr h
  have hS : va_S A s.heap s.heap [] := va_S.rf
  have hP : va_P (dC, dI) vwCl [(d0, .inr (3, [.ref pl, .ref tp, .ref wi, .ref pg, .ref te, .ref nw, .ref nx])), (pl, .inr (1, [.ref pb, .int dn, .int wr, .int pw])), (pb, .inl (cB, nb, .inl pf)), (nw, .inr (0, [.ref n1, .ref n2, .ref n3, .ref n4, .int ex, .int ch])), (n2, .inl (cI, 200, .inl fi)), (n3, .inl (cI, 200, .inl si))] s.heap := hP
  have hl := lv_entry ([.ref d0, .int x, .int y]) (n := 3) (Nat.le_of_ble_eq_true rfl)
  rw [lg_entry_eq]
  generalize (lg_sl ([.ref d0, .int x, .int y]) ++ List.replicate (3 - (lg_sl ([.ref d0, .int x, .int y])).length) Slot.unset).toArray = ls at hl ⊢
  have hl : lv_has ls 3 [(0, .ref d0), (1, .int x), (2, .int y)] := hl
  refine lv_aload_n hx hb d_D_byteAt_0 rfl (lv_at hl 0 rfl) ?_
  refine va_get (D := (dC, dI)) (ci := 3) (v := .ref nw) (C := R_D) (T := T_D) (N := 7) hx hb hts in_D hown hK hP 0 rfl rfl 5 (by decide) (hts _ ew_114) (fun _ h9 => h9) rfl d_D_byteAt_1 ?_
  refine lv_iload_n hx hb d_D_byteAt_4 rfl (lv_at hl 1 rfl) ?_
  refine ey_Vi (Wc := [(nw, .inr (0, [.ref n1, .ref n2, .ref n3, .ref n4, .int ex, .int ch]))]) (wr := [(d0, .inr (3, [.ref pl, .ref tp, .ref wi, .ref pg, .ref te, .ref nw, .ref nx])), (pl, .inr (1, [.ref pb, .int dn, .int wr, .int pw])), (pb, .inl (cB, nb, .inl pf)), (n2, .inl (cI, 200, .inl fi)), (n3, .inl (cI, 200, .inl si))]) (As := [.int x]) (rest := []) ⟨hx, hb, hml, hown, hts⟩ (c_mf_holds l dC dI cI cB cJ cZ nw n1 n2 n3 n4 ex ch x) (cwV 1 hts (ew_V ew_371 ew_372 ew_373 ew_17 g_M_holds) rfl rfl rfl (by decide +kernel) ⟨Nat.le_of_ble_eq_true rfl, Nat.le_of_ble_eq_true rfl⟩) hK hG hP hD hS hA [3] [0, 1, 2, 4, 5] rfl rfl (by decide) (by decide) (by decide) (ci := 0) (q0 := 0) rfl rfl rfl hl.1 rfl (Nat.le_of_ble_eq_true rfl) d_D_byteAt_5 ⟨Nat.le_of_ble_eq_true rfl, Nat.le_of_ble_eq_true rfl⟩ (fun r_1 u_2 H locs e_3 hP hD hS => ?_)
  have hP : va_P (dC, dI) vwCl [(d0, .inr (3, [.ref pl, .ref tp, .ref wi, .ref pg, .ref te, .ref nw, .ref nx])), (pl, .inr (1, [.ref pb, .int dn, .int wr, .int pw])), (pb, .inl (cB, nb, .inl pf)), (n2, .inl (cI, 200, .inl fi)), (n3, .inl (cI, 200, .inl si)), (nw, .inr (0, [.ref n1, .ref n2, .ref n3, .ref n4, .int ex, .int ch]))] H := hP
  have hD : va_D A [(d0, .inr (3, [.ref pl, .ref tp, .ref wi, .ref pg, .ref te, .ref nw, .ref nx])), (pl, .inr (1, [.ref pb, .int dn, .int wr, .int pw])), (pb, .inl (cB, nb, .inl pf)), (n2, .inl (cI, 200, .inl fi)), (n3, .inl (cI, 200, .inl si)), (nw, .inr (0, [.ref n1, .ref n2, .ref n3, .ref n4, .int ex, .int ch]))] := hD
  subst e_3
  refine lv_if_ne (tgt := 21) hx hb d_D_byteAt_8 (by decide) (fun c_8 => ?_) (fun c_8 => ?_)
  · refine lv_iload_n hx hb d_D_byteAt_21 rfl (lv_at hl 2 rfl) ?_
    refine lv_if_lt (tgt := 38) hx hb d_D_byteAt_22 (by decide) (fun c_22 => ?_) (fun c_22 => ?_)
    · have hP9 : va_P (dC, dI) vwCl [(d0, .inr (3, [.ref pl, .ref tp, .ref wi, .ref pg, .ref te, .ref nw, .ref nx])), (pl, .inr (1, [.ref pb, .int dn, .int wr, .int pw])), (pb, .inl (cB, nb, .inl pf)), (nw, .inr (0, [.ref n1, .ref n2, .ref n3, .ref n4, .int ex, .int ch])), (n2, .inl (cI, 200, .inl fi)), (n3, .inl (cI, 200, .inl si))] _ := ey_P (is := [0, 1, 2, 5, 3, 4]) hP rfl
      have hD9 : va_D A [(d0, .inr (3, [.ref pl, .ref tp, .ref wi, .ref pg, .ref te, .ref nw, .ref nx])), (pl, .inr (1, [.ref pb, .int dn, .int wr, .int pw])), (pb, .inl (cB, nb, .inl pf)), (nw, .inr (0, [.ref n1, .ref n2, .ref n3, .ref n4, .int ex, .int ch])), (n2, .inl (cI, 200, .inl fi)), (n3, .inl (cI, 200, .inl si))] := hD.sub [0, 1, 2, 5, 3, 4] (by decide) rfl
      obtain ⟨sa9, hstr9⟩ := ex_str (k := 131) (t := "there is no such byte") hG (by decide +kernel)
      exact vx_throwS (names := ["java/lang/RuntimeException", "java/lang/Exception"]) hx hb hl9 hown (by decide +kernel) (by decide +kernel) (hts _ ew_190) (hts _ ew_22) hstr9 (ex_hatA hG hts) ex_goodA hZ.1 hZ.2 hS (by rw [hml]; exact hl.1) d_D_byteAt_38 d_D_byteAt_41 d_D_byteAt_42 d_D_byteAt_44 d_D_byteAt_47 (fun x h9 => (hno x h9).elim) (Nat.le_of_ble_eq_true rfl) (Nat.le_of_ble_eq_true rfl) (Nat.le_of_ble_eq_true rfl) (Nat.le_of_ble_eq_true rfl) hlocks (fun t _ hz hk => ⟨(), trivial, ⟨Or.inl ⟨rfl, by simp only [ep_kbyte, ↓reduceIte, not_true_eq_false, not_false_eq_true, c_8, c_22]⟩, (ey_keptX hP9 hD9 hS hz hk).1⟩, (ey_keptX hP9 hD9 hS hz hk).2⟩) hS.2.2 (Nat.le_of_ble_eq_true rfl) (Nat.le_of_ble_eq_true rfl)
    · refine lv_iload_n hx hb d_D_byteAt_25 rfl (lv_at hl 2 rfl) ?_
      refine lv_aload_n hx hb d_D_byteAt_26 rfl (lv_at hl 0 rfl) ?_
      refine va_get (D := (dC, dI)) (ci := 3) (v := .ref nw) (C := R_D) (T := T_D) (N := 7) hx hb hts in_D hown hK hP 0 rfl rfl 5 (by decide) (hts _ ew_114) (fun _ h9 => h9) rfl d_D_byteAt_27 ?_
      refine va_get (D := (dC, dI)) (ci := 0) (v := .ref n3) (C := R_M) (T := T_M) (N := 6) hx hb hts in_M hown hK hP 5 rfl rfl 2 (by decide) (hts _ ew_88) (fun _ h9 => h9) rfl d_D_byteAt_30 ?_
      refine lv_iload_n hx hb d_D_byteAt_33 rfl (lv_at hl 1 rfl) ?_
      refine va_iald hx hb hK hP 4 0 rfl rfl (ey_holds c_8) d_D_byteAt_34 ?_
      refine lv_icmp_lt (tgt := 48) hx hb d_D_byteAt_35 (by decide) (fun c_35 => ?_) (fun c_35 => ?_)
      · refine lv_aload_n hx hb d_D_byteAt_48 rfl (lv_at hl 0 rfl) ?_
        refine va_get (D := (dC, dI)) (ci := 3) (v := .ref pl) (C := R_D) (T := T_D) (N := 7) hx hb hts in_D hown hK hP 0 rfl rfl 0 (by decide) (hts _ ew_109) (fun _ h9 => h9) rfl d_D_byteAt_49 ?_
        refine lv_aload_n hx hb d_D_byteAt_52 rfl (lv_at hl 0 rfl) ?_
        refine va_get (D := (dC, dI)) (ci := 3) (v := .ref nw) (C := R_D) (T := T_D) (N := 7) hx hb hts in_D hown hK hP 0 rfl rfl 5 (by decide) (hts _ ew_114) (fun _ h9 => h9) rfl d_D_byteAt_53 ?_
        refine va_get (D := (dC, dI)) (ci := 0) (v := .ref n2) (C := R_M) (T := T_M) (N := 6) hx hb hts in_M hown hK hP 5 rfl rfl 1 (by decide) (hts _ ew_86) (fun _ h9 => h9) rfl d_D_byteAt_56 ?_
        refine lv_iload_n hx hb d_D_byteAt_59 rfl (lv_at hl 1 rfl) ?_
        refine va_iald hx hb hK hP 3 0 rfl rfl (ey_holds c_8) d_D_byteAt_60 ?_
        refine lv_sipush (v := 4096) hx hb d_D_byteAt_61 (by decide) ?_
        refine lv_imul hx hb d_D_byteAt_64 ?_
        refine lv_iload_n hx hb d_D_byteAt_65 rfl (lv_at hl 2 rfl) ?_
        refine lv_iadd hx hb d_D_byteAt_66 ?_
        refine ey_Vi (Wc := [(pl, .inr (1, [.ref pb, .int dn, .int wr, .int pw])), (pb, .inl (cB, nb, .inl pf))]) (wr := [(d0, .inr (3, [.ref pl, .ref tp, .ref wi, .ref pg, .ref te, .ref nw, .ref nx])), (n2, .inl (cI, 200, .inl fi)), (n3, .inl (cI, 200, .inl si)), (nw, .inr (0, [.ref n1, .ref n2, .ref n3, .ref n4, .int ex, .int ch]))]) (As := [.int (((fi x.toNatClampNeg) * 4096) + y)]) (rest := []) ⟨hx, hb, hml, hown, hts⟩ (c_pl_read l dC dI cI cB cJ cZ pl pb dn wr pw nb pf (((fi x.toNatClampNeg) * 4096) + y) (by omega)) (cwV 1 hts (ew_V ew_385 ew_155 ew_156 ew_15 g_P_read) rfl rfl rfl (by decide +kernel) ⟨Nat.le_of_ble_eq_true rfl, Nat.le_of_ble_eq_true rfl⟩) hK hG hP hD hS hA [1, 2] [0, 3, 4, 5] rfl rfl (by decide) (by decide) (by decide) (ci := 1) (q0 := 0) rfl rfl rfl hl.1 rfl (Nat.le_of_ble_eq_true rfl) d_D_byteAt_67 ⟨Nat.le_of_ble_eq_true rfl, Nat.le_of_ble_eq_true rfl⟩ (fun r_4 u_5 H locs e_6 hP hD hS => ?_)
        have hP : va_P (dC, dI) vwCl [(d0, .inr (3, [.ref pl, .ref tp, .ref wi, .ref pg, .ref te, .ref nw, .ref nx])), (n2, .inl (cI, 200, .inl fi)), (n3, .inl (cI, 200, .inl si)), (nw, .inr (0, [.ref n1, .ref n2, .ref n3, .ref n4, .int ex, .int ch])), (pl, .inr (1, [.ref pb, .int dn, .int wr, .int pw])), (pb, .inl (cB, nb, .inl pf))] H := hP
        have hD : va_D A [(d0, .inr (3, [.ref pl, .ref tp, .ref wi, .ref pg, .ref te, .ref nw, .ref nx])), (n2, .inl (cI, 200, .inl fi)), (n3, .inl (cI, 200, .inl si)), (nw, .inr (0, [.ref n1, .ref n2, .ref n3, .ref n4, .int ex, .int ch])), (pl, .inr (1, [.ref pb, .int dn, .int wr, .int pw])), (pb, .inl (cB, nb, .inl pf))] := hD
        subst e_6
        refine vx_ret ?_
        exact ey_iret (W1 := fun (u : Unit) => [(d0, .inr (3, [.ref pl, .ref tp, .ref wi, .ref pg, .ref te, .ref nw, .ref nx])), (pl, .inr (1, [.ref pb, .int dn, .int wr, .int pw])), (pb, .inl (cB, nb, .inl pf)), (nw, .inr (0, [.ref n1, .ref n2, .ref n3, .ref n4, .int ex, .int ch])), (n2, .inl (cI, 200, .inl fi)), (n3, .inl (cI, 200, .inl si))]) hx hb hr hlocks hP hD hS () [0, 4, 5, 3, 1, 2] rfl (by decide) (⟨by simp only [ep_kbyte, ↓reduceIte, not_true_eq_false, not_false_eq_true, c_8, c_22, c_35], rfl⟩) d_D_byteAt_70 (Nat.le_of_ble_eq_true rfl) (Nat.le_of_ble_eq_true rfl)
      · have hP9 : va_P (dC, dI) vwCl [(d0, .inr (3, [.ref pl, .ref tp, .ref wi, .ref pg, .ref te, .ref nw, .ref nx])), (pl, .inr (1, [.ref pb, .int dn, .int wr, .int pw])), (pb, .inl (cB, nb, .inl pf)), (nw, .inr (0, [.ref n1, .ref n2, .ref n3, .ref n4, .int ex, .int ch])), (n2, .inl (cI, 200, .inl fi)), (n3, .inl (cI, 200, .inl si))] _ := ey_P (is := [0, 1, 2, 5, 3, 4]) hP rfl
        have hD9 : va_D A [(d0, .inr (3, [.ref pl, .ref tp, .ref wi, .ref pg, .ref te, .ref nw, .ref nx])), (pl, .inr (1, [.ref pb, .int dn, .int wr, .int pw])), (pb, .inl (cB, nb, .inl pf)), (nw, .inr (0, [.ref n1, .ref n2, .ref n3, .ref n4, .int ex, .int ch])), (n2, .inl (cI, 200, .inl fi)), (n3, .inl (cI, 200, .inl si))] := hD.sub [0, 1, 2, 5, 3, 4] (by decide) rfl
        obtain ⟨sa9, hstr9⟩ := ex_str (k := 131) (t := "there is no such byte") hG (by decide +kernel)
        exact vx_throwS (names := ["java/lang/RuntimeException", "java/lang/Exception"]) hx hb hl9 hown (by decide +kernel) (by decide +kernel) (hts _ ew_190) (hts _ ew_22) hstr9 (ex_hatA hG hts) ex_goodA hZ.1 hZ.2 hS (by rw [hml]; exact hl.1) d_D_byteAt_38 d_D_byteAt_41 d_D_byteAt_42 d_D_byteAt_44 d_D_byteAt_47 (fun x h9 => (hno x h9).elim) (Nat.le_of_ble_eq_true rfl) (Nat.le_of_ble_eq_true rfl) (Nat.le_of_ble_eq_true rfl) (Nat.le_of_ble_eq_true rfl) hlocks (fun t _ hz hk => ⟨(), trivial, ⟨Or.inl ⟨rfl, by simp only [ep_kbyte, ↓reduceIte, not_true_eq_false, not_false_eq_true, c_8, c_22, c_35]⟩, (ey_keptX hP9 hD9 hS hz hk).1⟩, (ey_keptX hP9 hD9 hS hz hk).2⟩) hS.2.2 (Nat.le_of_ble_eq_true rfl) (Nat.le_of_ble_eq_true rfl)
  · have hP9 : va_P (dC, dI) vwCl [(d0, .inr (3, [.ref pl, .ref tp, .ref wi, .ref pg, .ref te, .ref nw, .ref nx])), (pl, .inr (1, [.ref pb, .int dn, .int wr, .int pw])), (pb, .inl (cB, nb, .inl pf)), (nw, .inr (0, [.ref n1, .ref n2, .ref n3, .ref n4, .int ex, .int ch])), (n2, .inl (cI, 200, .inl fi)), (n3, .inl (cI, 200, .inl si))] _ := ey_P (is := [0, 1, 2, 5, 3, 4]) hP rfl
    have hD9 : va_D A [(d0, .inr (3, [.ref pl, .ref tp, .ref wi, .ref pg, .ref te, .ref nw, .ref nx])), (pl, .inr (1, [.ref pb, .int dn, .int wr, .int pw])), (pb, .inl (cB, nb, .inl pf)), (nw, .inr (0, [.ref n1, .ref n2, .ref n3, .ref n4, .int ex, .int ch])), (n2, .inl (cI, 200, .inl fi)), (n3, .inl (cI, 200, .inl si))] := hD.sub [0, 1, 2, 5, 3, 4] (by decide) rfl
    obtain ⟨sa9, hstr9⟩ := ex_str (k := 118) (t := "there is no such extent") hG (by decide +kernel)
    exact vx_throwS (names := ["java/lang/RuntimeException", "java/lang/Exception"]) hx hb hl9 hown (by decide +kernel) (by decide +kernel) (hts _ ew_190) (hts _ ew_22) hstr9 (ex_hatA hG hts) ex_goodA hZ.1 hZ.2 hS (by rw [hml]; exact hl.1) d_D_byteAt_11 d_D_byteAt_14 d_D_byteAt_15 d_D_byteAt_17 d_D_byteAt_20 (fun x h9 => (hno x h9).elim) (Nat.le_of_ble_eq_true rfl) (Nat.le_of_ble_eq_true rfl) (Nat.le_of_ble_eq_true rfl) (Nat.le_of_ble_eq_true rfl) hlocks (fun t _ hz hk => ⟨(), trivial, ⟨Or.inl ⟨rfl, by simp only [ep_kbyte, ↓reduceIte, not_true_eq_false, not_false_eq_true, c_8]⟩, (ey_keptX hP9 hD9 hS hz hk).1⟩, (ey_keptX hP9 hD9 hS hz hk).2⟩) hS.2.2 (Nat.le_of_ble_eq_true rfl) (Nat.le_of_ble_eq_true rfl)
set_option maxHeartbeats 4000000 in
set_option maxRecDepth 100000 in
theorem c_ed_extent (l : Launch) (dC : Nat → ClassId) (dI : Nat → Nat → Nat) (cI cB cJ cZ : ClassId) (hl9 : l.stackTraces = false) (d0 pl tp wi pg te nw nx : Nat) (n1 n2 n3 n4 : Nat) (ex ch : Int32) (la fi si : ep_F) (x y : Int32) : ey_Xi l y_D_extent w_D_extent { frames := 6, cells := 1, slots := 6, locals := 90 } (dC, dI) vwCl (ey_kt cI cB cJ cZ) [.ref d0, .int x, .int y] [(d0, .inr (3, [.ref pl, .ref tp, .ref wi, .ref pg, .ref te, .ref nw, .ref nx])), (nw, .inr (0, [.ref n1, .ref n2, .ref n3, .ref n4, .int ex, .int ch])), (n1, .inl (cI, 200, .inl la)), (n2, .inl (cI, 200, .inl fi)), (n3, .inl (cI, 200, .inl si))] (fun (r : Int32) (u : Unit) => ep_kext ex x y = 0 ∧ r = ep_ext la fi si x y) (fun (u : Unit) => [(d0, .inr (3, [.ref pl, .ref tp, .ref wi, .ref pg, .ref te, .ref nw, .ref nx])), (nw, .inr (0, [.ref n1, .ref n2, .ref n3, .ref n4, .int ex, .int ch])), (n1, .inl (cI, 200, .inl la)), (n2, .inl (cI, 200, .inl fi)), (n3, .inl (cI, 200, .inl si))]) (fun E => (E = "java/lang/IllegalArgumentException" ∧ ep_kext ex x y = 1) ∨ (E = "java/lang/IllegalStateException" ∧ ep_kext ex x y = 2)) 1 6 := by
  intro sz
  refine vx_ofW (cc := b_D_extent) (maxL := 3) (ret := (some .int)) (by decide) rfl ?_
  intro p e s m args below meth c s₁ B hml hno hv
  obtain ⟨rfl, hZ, hsz, hP, hK, hG, hD0⟩ := hv
  have hx := B.exec
  have hb := B.bytes
  have hr := B.returns
  have hts := fun (w : Cond) (h : w ∈ ew_T) => atoms_spec (ws := w_D_extent) B.pre w (List.mem_cons_of_mem _ h)
  have hown : s.vm.findClass R_D = some m.cls := findClass_of_methodNamed B.named
  have hlocks := B.notSynchronized
  subst hsz
  have hD := hD0.self (sz := s.heap.size)
  generalize hAe : va_A [(d0, .inr (3, [.ref pl, .ref tp, .ref wi, .ref pg, .ref te, .ref nw, .ref nx])), (nw, .inr (0, [.ref n1, .ref n2, .ref n3, .ref n4, .int ex, .int ch])), (n1, .inl (cI, 200, .inl la)), (n2, .inl (cI, 200, .inl fi)), (n3, .inl (cI, 200, .inl si))] s.heap.size = A at hD hZ ⊢
  have hA : ∀ q : Nat, s.heap.size ≤ q → A q := fun q h => by rw [← hAe]; exact Or.inr h
  have hS : va_S A s.heap s.heap [] := va_S.rf
  have hP : va_P (dC, dI) vwCl [(d0, .inr (3, [.ref pl, .ref tp, .ref wi, .ref pg, .ref te, .ref nw, .ref nx])), (nw, .inr (0, [.ref n1, .ref n2, .ref n3, .ref n4, .int ex, .int ch])), (n1, .inl (cI, 200, .inl la)), (n2, .inl (cI, 200, .inl fi)), (n3, .inl (cI, 200, .inl si))] s.heap := hP
  have hl := lv_entry ([.ref d0, .int x, .int y]) (n := 3) (Nat.le_of_ble_eq_true rfl)
  rw [lg_entry_eq]
  generalize (lg_sl ([.ref d0, .int x, .int y]) ++ List.replicate (3 - (lg_sl ([.ref d0, .int x, .int y])).length) Slot.unset).toArray = ls at hl ⊢
  have hl : lv_has ls 3 [(0, .ref d0), (1, .int x), (2, .int y)] := hl
  refine lv_aload_n hx hb d_D_extent_0 rfl (lv_at hl 0 rfl) ?_
  refine va_get (D := (dC, dI)) (ci := 3) (v := .ref nw) (C := R_D) (T := T_D) (N := 7) hx hb hts in_D hown hK hP 0 rfl rfl 5 (by decide) (hts _ ew_114) (fun _ h9 => h9) rfl d_D_extent_1 ?_
  refine lv_iload_n hx hb d_D_extent_4 rfl (lv_at hl 1 rfl) ?_
  refine ey_Vi (Wc := [(nw, .inr (0, [.ref n1, .ref n2, .ref n3, .ref n4, .int ex, .int ch]))]) (wr := [(d0, .inr (3, [.ref pl, .ref tp, .ref wi, .ref pg, .ref te, .ref nw, .ref nx])), (n1, .inl (cI, 200, .inl la)), (n2, .inl (cI, 200, .inl fi)), (n3, .inl (cI, 200, .inl si))]) (As := [.int x]) (rest := []) ⟨hx, hb, hml, hown, hts⟩ (c_mf_holds l dC dI cI cB cJ cZ nw n1 n2 n3 n4 ex ch x) (cwV 1 hts (ew_V ew_371 ew_372 ew_373 ew_17 g_M_holds) rfl rfl rfl (by decide +kernel) ⟨Nat.le_of_ble_eq_true rfl, Nat.le_of_ble_eq_true rfl⟩) hK hG hP hD hS hA [1] [0, 2, 3, 4] rfl rfl (by decide) (by decide) (by decide) (ci := 0) (q0 := 0) rfl rfl rfl hl.1 rfl (Nat.le_of_ble_eq_true rfl) d_D_extent_5 ⟨Nat.le_of_ble_eq_true rfl, Nat.le_of_ble_eq_true rfl⟩ (fun r_1 u_2 H locs e_3 hP hD hS => ?_)
  have hP : va_P (dC, dI) vwCl [(d0, .inr (3, [.ref pl, .ref tp, .ref wi, .ref pg, .ref te, .ref nw, .ref nx])), (n1, .inl (cI, 200, .inl la)), (n2, .inl (cI, 200, .inl fi)), (n3, .inl (cI, 200, .inl si)), (nw, .inr (0, [.ref n1, .ref n2, .ref n3, .ref n4, .int ex, .int ch]))] H := hP
  have hD : va_D A [(d0, .inr (3, [.ref pl, .ref tp, .ref wi, .ref pg, .ref te, .ref nw, .ref nx])), (n1, .inl (cI, 200, .inl la)), (n2, .inl (cI, 200, .inl fi)), (n3, .inl (cI, 200, .inl si)), (nw, .inr (0, [.ref n1, .ref n2, .ref n3, .ref n4, .int ex, .int ch]))] := hD
  subst e_3
  refine lv_if_ne (tgt := 21) hx hb d_D_extent_8 (by decide) (fun c_8 => ?_) (fun c_8 => ?_)
  · refine lv_iload_n hx hb d_D_extent_21 rfl (lv_at hl 2 rfl) ?_
    by_cases s_22_0 : y = 0
    · refine lv_tableIn (off := 30) (tgt := 52) hx hb d_D_extent_22 (by rw [s_22_0]; decide) (by rw [s_22_0]; decide) (by rw [s_22_0]; decide) (by decide) ?_
      refine lv_aload_n hx hb d_D_extent_52 rfl (lv_at hl 0 rfl) ?_
      refine va_get (D := (dC, dI)) (ci := 3) (v := .ref nw) (C := R_D) (T := T_D) (N := 7) hx hb hts in_D hown hK hP 0 rfl rfl 5 (by decide) (hts _ ew_114) (fun _ h9 => h9) rfl d_D_extent_53 ?_
      refine va_get (D := (dC, dI)) (ci := 0) (v := .ref n1) (C := R_M) (T := T_M) (N := 6) hx hb hts in_M hown hK hP 4 rfl rfl 0 (by decide) (hts _ ew_84) (fun _ h9 => h9) rfl d_D_extent_56 ?_
      refine lv_iload_n hx hb d_D_extent_59 rfl (lv_at hl 1 rfl) ?_
      refine va_iald hx hb hK hP 1 0 rfl rfl (ey_holds c_8) d_D_extent_60 ?_
      refine vx_ret ?_
      exact ey_iret (W1 := fun (u : Unit) => [(d0, .inr (3, [.ref pl, .ref tp, .ref wi, .ref pg, .ref te, .ref nw, .ref nx])), (nw, .inr (0, [.ref n1, .ref n2, .ref n3, .ref n4, .int ex, .int ch])), (n1, .inl (cI, 200, .inl la)), (n2, .inl (cI, 200, .inl fi)), (n3, .inl (cI, 200, .inl si))]) hx hb hr hlocks hP hD hS () [0, 4, 1, 2, 3] rfl (by decide) (⟨by rw [ep_kext, if_pos c_8, if_pos s_22_0], by rw [ep_ext, if_pos s_22_0]⟩) d_D_extent_61 (Nat.le_of_ble_eq_true rfl) (Nat.le_of_ble_eq_true rfl)
    by_cases s_22_1 : y = 1
    · refine lv_tableIn (off := 40) (tgt := 62) hx hb d_D_extent_22 (by rw [s_22_1]; decide) (by rw [s_22_1]; decide) (by rw [s_22_1]; decide) (by decide) ?_
      refine lv_aload_n hx hb d_D_extent_62 rfl (lv_at hl 0 rfl) ?_
      refine va_get (D := (dC, dI)) (ci := 3) (v := .ref nw) (C := R_D) (T := T_D) (N := 7) hx hb hts in_D hown hK hP 0 rfl rfl 5 (by decide) (hts _ ew_114) (fun _ h9 => h9) rfl d_D_extent_63 ?_
      refine va_get (D := (dC, dI)) (ci := 0) (v := .ref n2) (C := R_M) (T := T_M) (N := 6) hx hb hts in_M hown hK hP 4 rfl rfl 1 (by decide) (hts _ ew_86) (fun _ h9 => h9) rfl d_D_extent_66 ?_
      refine lv_iload_n hx hb d_D_extent_69 rfl (lv_at hl 1 rfl) ?_
      refine va_iald hx hb hK hP 2 0 rfl rfl (ey_holds c_8) d_D_extent_70 ?_
      refine vx_ret ?_
      exact ey_iret (W1 := fun (u : Unit) => [(d0, .inr (3, [.ref pl, .ref tp, .ref wi, .ref pg, .ref te, .ref nw, .ref nx])), (nw, .inr (0, [.ref n1, .ref n2, .ref n3, .ref n4, .int ex, .int ch])), (n1, .inl (cI, 200, .inl la)), (n2, .inl (cI, 200, .inl fi)), (n3, .inl (cI, 200, .inl si))]) hx hb hr hlocks hP hD hS () [0, 4, 1, 2, 3] rfl (by decide) (⟨by rw [ep_kext, if_pos c_8, if_neg s_22_0, if_pos s_22_1], by rw [ep_ext, if_neg s_22_0, if_pos s_22_1]⟩) d_D_extent_71 (Nat.le_of_ble_eq_true rfl) (Nat.le_of_ble_eq_true rfl)
    by_cases s_22_2 : y = 2
    · refine lv_tableIn (off := 50) (tgt := 72) hx hb d_D_extent_22 (by rw [s_22_2]; decide) (by rw [s_22_2]; decide) (by rw [s_22_2]; decide) (by decide) ?_
      refine lv_aload_n hx hb d_D_extent_72 rfl (lv_at hl 0 rfl) ?_
      refine va_get (D := (dC, dI)) (ci := 3) (v := .ref nw) (C := R_D) (T := T_D) (N := 7) hx hb hts in_D hown hK hP 0 rfl rfl 5 (by decide) (hts _ ew_114) (fun _ h9 => h9) rfl d_D_extent_73 ?_
      refine va_get (D := (dC, dI)) (ci := 0) (v := .ref n3) (C := R_M) (T := T_M) (N := 6) hx hb hts in_M hown hK hP 4 rfl rfl 2 (by decide) (hts _ ew_88) (fun _ h9 => h9) rfl d_D_extent_76 ?_
      refine lv_iload_n hx hb d_D_extent_79 rfl (lv_at hl 1 rfl) ?_
      refine va_iald hx hb hK hP 3 0 rfl rfl (ey_holds c_8) d_D_extent_80 ?_
      refine ey_Si (Wc := []) (wr := [(d0, .inr (3, [.ref pl, .ref tp, .ref wi, .ref pg, .ref te, .ref nw, .ref nx])), (n1, .inl (cI, 200, .inl la)), (n2, .inl (cI, 200, .inl fi)), (n3, .inl (cI, 200, .inl si)), (nw, .inr (0, [.ref n1, .ref n2, .ref n3, .ref n4, .int ex, .int ch]))]) (As := [.int (si x.toNatClampNeg)]) (rest := []) ⟨hx, hb, hml, hown, hts⟩ (c_ed_blocks l dC dI cI cB cJ cZ (si x.toNatClampNeg)) (va_cwS 1 hts (ew_S ew_327 ew_328 ew_13 g_D_blocksFor) rfl rfl rfl (by decide +kernel) ⟨Nat.le_of_ble_eq_true rfl, Nat.le_of_ble_eq_true rfl⟩) hK hG hP hD hS hA [] [0, 1, 2, 3, 4] rfl rfl (by decide) (by decide) (by decide) rfl hl.1 rfl (Nat.le_of_ble_eq_true rfl) d_D_extent_81 ⟨Nat.le_of_ble_eq_true rfl, Nat.le_of_ble_eq_true rfl⟩ (fun r_4 u_5 H locs e_6 hP hD hS => ?_)
      have hP : va_P (dC, dI) vwCl [(d0, .inr (3, [.ref pl, .ref tp, .ref wi, .ref pg, .ref te, .ref nw, .ref nx])), (n1, .inl (cI, 200, .inl la)), (n2, .inl (cI, 200, .inl fi)), (n3, .inl (cI, 200, .inl si)), (nw, .inr (0, [.ref n1, .ref n2, .ref n3, .ref n4, .int ex, .int ch]))] H := hP
      have hD : va_D A [(d0, .inr (3, [.ref pl, .ref tp, .ref wi, .ref pg, .ref te, .ref nw, .ref nx])), (n1, .inl (cI, 200, .inl la)), (n2, .inl (cI, 200, .inl fi)), (n3, .inl (cI, 200, .inl si)), (nw, .inr (0, [.ref n1, .ref n2, .ref n3, .ref n4, .int ex, .int ch]))] := hD
      subst e_6
      refine vx_ret ?_
      exact ey_iret (W1 := fun (u : Unit) => [(d0, .inr (3, [.ref pl, .ref tp, .ref wi, .ref pg, .ref te, .ref nw, .ref nx])), (nw, .inr (0, [.ref n1, .ref n2, .ref n3, .ref n4, .int ex, .int ch])), (n1, .inl (cI, 200, .inl la)), (n2, .inl (cI, 200, .inl fi)), (n3, .inl (cI, 200, .inl si))]) hx hb hr hlocks hP hD hS () [0, 4, 1, 2, 3] rfl (by decide) (⟨by rw [ep_kext, if_pos c_8, if_neg s_22_0, if_neg s_22_1, if_pos s_22_2], by rw [ep_ext, if_neg s_22_0, if_neg s_22_1, if_pos s_22_2]⟩) d_D_extent_84 (Nat.le_of_ble_eq_true rfl) (Nat.le_of_ble_eq_true rfl)
    by_cases s_22_3 : y = 3
    · refine lv_tableIn (off := 63) (tgt := 85) hx hb d_D_extent_22 (by rw [s_22_3]; decide) (by rw [s_22_3]; decide) (by rw [s_22_3]; decide) (by decide) ?_
      refine lv_aload_n hx hb d_D_extent_85 rfl (lv_at hl 0 rfl) ?_
      refine va_get (D := (dC, dI)) (ci := 3) (v := .ref nw) (C := R_D) (T := T_D) (N := 7) hx hb hts in_D hown hK hP 0 rfl rfl 5 (by decide) (hts _ ew_114) (fun _ h9 => h9) rfl d_D_extent_86 ?_
      refine va_get (D := (dC, dI)) (ci := 0) (v := .ref n3) (C := R_M) (T := T_M) (N := 6) hx hb hts in_M hown hK hP 4 rfl rfl 2 (by decide) (hts _ ew_88) (fun _ h9 => h9) rfl d_D_extent_89 ?_
      refine lv_iload_n hx hb d_D_extent_92 rfl (lv_at hl 1 rfl) ?_
      refine va_iald hx hb hK hP 3 0 rfl rfl (ey_holds c_8) d_D_extent_93 ?_
      refine vx_ret ?_
      exact ey_iret (W1 := fun (u : Unit) => [(d0, .inr (3, [.ref pl, .ref tp, .ref wi, .ref pg, .ref te, .ref nw, .ref nx])), (nw, .inr (0, [.ref n1, .ref n2, .ref n3, .ref n4, .int ex, .int ch])), (n1, .inl (cI, 200, .inl la)), (n2, .inl (cI, 200, .inl fi)), (n3, .inl (cI, 200, .inl si))]) hx hb hr hlocks hP hD hS () [0, 4, 1, 2, 3] rfl (by decide) (⟨by rw [ep_kext, if_pos c_8, if_neg s_22_0, if_neg s_22_1, if_neg s_22_2, if_pos s_22_3], by rw [ep_ext, if_neg s_22_0, if_neg s_22_1, if_neg s_22_2]⟩) d_D_extent_94 (Nat.le_of_ble_eq_true rfl) (Nat.le_of_ble_eq_true rfl)
    refine lv_tableOut (tgt := 95) hx hb d_D_extent_22 (by have a0 := lv_neT (a := 0) s_22_0 (by decide); have a1 := lv_neT (a := 1) s_22_1 (by decide); have a2 := lv_neT (a := 2) s_22_2 (by decide); have a3 := lv_neT (a := 3) s_22_3 (by decide); omega) (by decide) ?_
    have hP9 : va_P (dC, dI) vwCl [(d0, .inr (3, [.ref pl, .ref tp, .ref wi, .ref pg, .ref te, .ref nw, .ref nx])), (nw, .inr (0, [.ref n1, .ref n2, .ref n3, .ref n4, .int ex, .int ch])), (n1, .inl (cI, 200, .inl la)), (n2, .inl (cI, 200, .inl fi)), (n3, .inl (cI, 200, .inl si))] _ := ey_P (is := [0, 4, 1, 2, 3]) hP rfl
    have hD9 : va_D A [(d0, .inr (3, [.ref pl, .ref tp, .ref wi, .ref pg, .ref te, .ref nw, .ref nx])), (nw, .inr (0, [.ref n1, .ref n2, .ref n3, .ref n4, .int ex, .int ch])), (n1, .inl (cI, 200, .inl la)), (n2, .inl (cI, 200, .inl fi)), (n3, .inl (cI, 200, .inl si))] := hD.sub [0, 4, 1, 2, 3] (by decide) rfl
    obtain ⟨sa9, hstr9⟩ := ex_str (k := 129) (t := "what is not 0 .. 3") hG (by decide +kernel)
    exact vx_throwS (names := ["java/lang/RuntimeException", "java/lang/Exception"]) hx hb hl9 hown (by decide +kernel) (by decide +kernel) (hts _ ew_190) (hts _ ew_22) hstr9 (ex_hatA hG hts) ex_goodA hZ.1 hZ.2 hS (by rw [hml]; exact hl.1) d_D_extent_95 d_D_extent_98 d_D_extent_99 d_D_extent_101 d_D_extent_104 (fun x h9 => (hno x h9).elim) (Nat.le_of_ble_eq_true rfl) (Nat.le_of_ble_eq_true rfl) (Nat.le_of_ble_eq_true rfl) (Nat.le_of_ble_eq_true rfl) hlocks (fun t _ hz hk => ⟨(), trivial, ⟨Or.inl ⟨rfl, by rw [ep_kext, if_pos c_8, if_neg s_22_0, if_neg s_22_1, if_neg s_22_2, if_neg s_22_3]⟩, (ey_keptX hP9 hD9 hS hz hk).1⟩, (ey_keptX hP9 hD9 hS hz hk).2⟩) hS.2.2 (Nat.le_of_ble_eq_true rfl) (Nat.le_of_ble_eq_true rfl)
  · have hP9 : va_P (dC, dI) vwCl [(d0, .inr (3, [.ref pl, .ref tp, .ref wi, .ref pg, .ref te, .ref nw, .ref nx])), (nw, .inr (0, [.ref n1, .ref n2, .ref n3, .ref n4, .int ex, .int ch])), (n1, .inl (cI, 200, .inl la)), (n2, .inl (cI, 200, .inl fi)), (n3, .inl (cI, 200, .inl si))] _ := ey_P (is := [0, 4, 1, 2, 3]) hP rfl
    have hD9 : va_D A [(d0, .inr (3, [.ref pl, .ref tp, .ref wi, .ref pg, .ref te, .ref nw, .ref nx])), (nw, .inr (0, [.ref n1, .ref n2, .ref n3, .ref n4, .int ex, .int ch])), (n1, .inl (cI, 200, .inl la)), (n2, .inl (cI, 200, .inl fi)), (n3, .inl (cI, 200, .inl si))] := hD.sub [0, 4, 1, 2, 3] (by decide) rfl
    obtain ⟨sa9, hstr9⟩ := ex_str (k := 118) (t := "there is no such extent") hG (by decide +kernel)
    exact vx_throwS (names := ["java/lang/RuntimeException", "java/lang/Exception"]) hx hb hl9 hown (by decide +kernel) (by decide +kernel) (hts _ ew_190) (hts _ ew_22) hstr9 (ex_hatA hG hts) ex_goodA hZ.1 hZ.2 hS (by rw [hml]; exact hl.1) d_D_extent_11 d_D_extent_14 d_D_extent_15 d_D_extent_17 d_D_extent_20 (fun x h9 => (hno x h9).elim) (Nat.le_of_ble_eq_true rfl) (Nat.le_of_ble_eq_true rfl) (Nat.le_of_ble_eq_true rfl) (Nat.le_of_ble_eq_true rfl) hlocks (fun t _ hz hk => ⟨(), trivial, ⟨Or.inl ⟨rfl, by rw [ep_kext, if_neg (fun h9 => h9 c_8)]⟩, (ey_keptX hP9 hD9 hS hz hk).1⟩, (ey_keptX hP9 hD9 hS hz hk).2⟩) hS.2.2 (Nat.le_of_ble_eq_true rfl) (Nat.le_of_ble_eq_true rfl)
end
section
set_option maxHeartbeats 4000000 in
set_option maxRecDepth 100000 in
theorem c_ed_count (l : Launch) (dC : Nat → ClassId) (dI : Nat → Nat → Nat) (cI cB cJ cZ : ClassId) (hl9 : l.stackTraces = false) (d0 pl tp wi pg te nw nx : Nat) (pb : Nat) (dn wr pw : Int32) (tb : Nat) (ln : Int32) (n1 n2 n3 n4 : Nat) (ex ch : Int32) (fi si : ep_F) (n : Nat) (t0 : ep_F) (x : Int32) (hn : n < 2 ^ 30) (hn2 : 2 ≤ n) : ey_Xi l y_D_count w_D_count { frames := 6, cells := 1, slots := 6, locals := 90 } (dC, dI) vwCl (ey_kt cI cB cJ cZ) [.ref d0, .int x] [(d0, .inr (3, [.ref pl, .ref tp, .ref wi, .ref pg, .ref te, .ref nw, .ref nx])), (pl, .inr (1, [.ref pb, .int dn, .int wr, .int pw])), (tp, .inr (2, [.ref tb, .int ln])), (nw, .inr (0, [.ref n1, .ref n2, .ref n3, .ref n4, .int ex, .int ch])), (n2, .inl (cI, 200, .inl fi)), (n3, .inl (cI, 200, .inl si)), (te, .inl (cI, n, .inl t0))] (fun (r : Int32) (u : ep_F) => ep_kcount dn x = 0 ∧ (r, u) = ep_count x ex ch ln fi si n t0) (fun (u : ep_F) => [(d0, .inr (3, [.ref pl, .ref tp, .ref wi, .ref pg, .ref te, .ref nw, .ref nx])), (pl, .inr (1, [.ref pb, .int dn, .int wr, .int pw])), (tp, .inr (2, [.ref tb, .int ln])), (nw, .inr (0, [.ref n1, .ref n2, .ref n3, .ref n4, .int ex, .int ch])), (n2, .inl (cI, 200, .inl fi)), (n3, .inl (cI, 200, .inl si)), (te, .inl (cI, n, .inl u))]) (fun E => (E = "java/lang/IllegalArgumentException" ∧ ep_kcount dn x = 1) ∨ (E = "java/lang/IllegalStateException" ∧ ep_kcount dn x = 2)) 1 6 := by
  intro sz
  refine vx_ofW (cc := b_D_count) (maxL := 2) (ret := (some .int)) (by decide) rfl ?_
  intro p e s m args below meth c s₁ B hml hno hv
  obtain ⟨rfl, hZ, hsz, hP, hK, hG, hD0⟩ := hv
  have hx := B.exec
  have hb := B.bytes
  have hr := B.returns
  have hts := fun (w : Cond) (h : w ∈ ew_T) => atoms_spec (ws := w_D_count) B.pre w (List.mem_cons_of_mem _ h)
  have hown : s.vm.findClass R_D = some m.cls := findClass_of_methodNamed B.named
  have hlocks := B.notSynchronized
  subst hsz
  have hD := hD0.self (sz := s.heap.size)
  generalize hAe : va_A [(d0, .inr (3, [.ref pl, .ref tp, .ref wi, .ref pg, .ref te, .ref nw, .ref nx])), (pl, .inr (1, [.ref pb, .int dn, .int wr, .int pw])), (tp, .inr (2, [.ref tb, .int ln])), (nw, .inr (0, [.ref n1, .ref n2, .ref n3, .ref n4, .int ex, .int ch])), (n2, .inl (cI, 200, .inl fi)), (n3, .inl (cI, 200, .inl si)), (te, .inl (cI, n, .inl t0))] s.heap.size = A at hD hZ ⊢
  have hA : ∀ q : Nat, s.heap.size ≤ q → A q := fun q h => by rw [← hAe]; exact Or.inr h
  have hS : va_S A s.heap s.heap [] := va_S.rf
  have hP : va_P (dC, dI) vwCl [(d0, .inr (3, [.ref pl, .ref tp, .ref wi, .ref pg, .ref te, .ref nw, .ref nx])), (pl, .inr (1, [.ref pb, .int dn, .int wr, .int pw])), (tp, .inr (2, [.ref tb, .int ln])), (nw, .inr (0, [.ref n1, .ref n2, .ref n3, .ref n4, .int ex, .int ch])), (n2, .inl (cI, 200, .inl fi)), (n3, .inl (cI, 200, .inl si)), (te, .inl (cI, n, .inl t0))] s.heap := hP
  have hl := lv_entry ([.ref d0, .int x]) (n := 2) (Nat.le_of_ble_eq_true rfl)
  rw [lg_entry_eq]
  generalize (lg_sl ([.ref d0, .int x]) ++ List.replicate (2 - (lg_sl ([.ref d0, .int x])).length) Slot.unset).toArray = ls at hl ⊢
  have hl : lv_has ls 2 [(0, .ref d0), (1, .int x)] := hl
  refine lv_iload_n hx hb d_D_count_0 rfl (lv_at hl 1 rfl) ?_
  refine lv_if_lt (tgt := 9) hx hb d_D_count_1 (by decide) (fun c_1 => ?_) (fun c_1 => ?_)
  · have hP9 : va_P (dC, dI) vwCl [(d0, .inr (3, [.ref pl, .ref tp, .ref wi, .ref pg, .ref te, .ref nw, .ref nx])), (pl, .inr (1, [.ref pb, .int dn, .int wr, .int pw])), (tp, .inr (2, [.ref tb, .int ln])), (nw, .inr (0, [.ref n1, .ref n2, .ref n3, .ref n4, .int ex, .int ch])), (n2, .inl (cI, 200, .inl fi)), (n3, .inl (cI, 200, .inl si)), (te, .inl (cI, n, .inl t0))] _ := ey_P (is := [0, 1, 2, 3, 4, 5, 6]) hP rfl
    have hD9 : va_D A [(d0, .inr (3, [.ref pl, .ref tp, .ref wi, .ref pg, .ref te, .ref nw, .ref nx])), (pl, .inr (1, [.ref pb, .int dn, .int wr, .int pw])), (tp, .inr (2, [.ref tb, .int ln])), (nw, .inr (0, [.ref n1, .ref n2, .ref n3, .ref n4, .int ex, .int ch])), (n2, .inl (cI, 200, .inl fi)), (n3, .inl (cI, 200, .inl si)), (te, .inl (cI, n, .inl t0))] := hD.sub [0, 1, 2, 3, 4, 5, 6] (by decide) rfl
    obtain ⟨sa9, hstr9⟩ := ex_str (k := 129) (t := "what is not 0 .. 3") hG (by decide +kernel)
    exact vx_throwS (names := ["java/lang/RuntimeException", "java/lang/Exception"]) hx hb hl9 hown (by decide +kernel) (by decide +kernel) (hts _ ew_190) (hts _ ew_22) hstr9 (ex_hatA hG hts) ex_goodA hZ.1 hZ.2 hS (by rw [hml]; exact hl.1) d_D_count_9 d_D_count_12 d_D_count_13 d_D_count_15 d_D_count_18 (fun x h9 => (hno x h9).elim) (Nat.le_of_ble_eq_true rfl) (Nat.le_of_ble_eq_true rfl) (Nat.le_of_ble_eq_true rfl) (Nat.le_of_ble_eq_true rfl) hlocks (fun t _ hz hk => ⟨(), trivial, ⟨Or.inl ⟨rfl, by simp only [ep_kcount, ↓reduceIte, not_true_eq_false, not_false_eq_true, c_1]⟩, (ey_keptX hP9 hD9 hS hz hk).1⟩, (ey_keptX hP9 hD9 hS hz hk).2⟩) hS.2.2 (Nat.le_of_ble_eq_true rfl) (Nat.le_of_ble_eq_true rfl)
  · refine lv_iload_n hx hb d_D_count_4 rfl (lv_at hl 1 rfl) ?_
    refine lv_iconst (v := 3) hx hb d_D_count_5 (by decide) ?_
    refine lv_icmp_le (tgt := 19) hx hb d_D_count_6 (by decide) (fun c_6 => ?_) (fun c_6 => ?_)
    · refine lv_aload_n hx hb d_D_count_19 rfl (lv_at hl 0 rfl) ?_
      refine va_get (D := (dC, dI)) (ci := 3) (v := .ref pl) (C := R_D) (T := T_D) (N := 7) hx hb hts in_D hown hK hP 0 rfl rfl 0 (by decide) (hts _ ew_109) (fun _ h9 => h9) rfl d_D_count_20 ?_
      refine va_get (D := (dC, dI)) (ci := 1) (v := .int dn) (C := R_P) (T := T_P) (N := 4) hx hb hts in_P hown hK hP 1 rfl rfl 1 (by decide) (hts _ ew_48) (fun _ h9 => h9) rfl d_D_count_23 ?_
      refine lv_if_eq (tgt := 39) hx hb d_D_count_26 (by decide) (fun c_26 => ?_) (fun c_26 => ?_)
      · refine lv_iload_n hx hb d_D_count_39 rfl (lv_at hl 1 rfl) ?_
        by_cases s_40_0 : x = 0
        · refine lv_tableIn (off := 28) (tgt := 68) hx hb d_D_count_40 (by rw [s_40_0]; decide) (by rw [s_40_0]; decide) (by rw [s_40_0]; decide) (by decide) ?_
          refine lv_aload_n hx hb d_D_count_68 rfl (lv_at hl 0 rfl) ?_
          refine va_get (D := (dC, dI)) (ci := 3) (v := .ref nw) (C := R_D) (T := T_D) (N := 7) hx hb hts in_D hown hK hP 0 rfl rfl 5 (by decide) (hts _ ew_114) (fun _ h9 => h9) rfl d_D_count_69 ?_
          refine va_get (D := (dC, dI)) (ci := 0) (v := .int ex) (C := R_M) (T := T_M) (N := 6) hx hb hts in_M hown hK hP 3 rfl rfl 4 (by decide) (hts _ ew_92) (fun _ h9 => h9) rfl d_D_count_72 ?_
          refine vx_ret ?_
          exact ey_iret (W1 := fun (u : ep_F) => [(d0, .inr (3, [.ref pl, .ref tp, .ref wi, .ref pg, .ref te, .ref nw, .ref nx])), (pl, .inr (1, [.ref pb, .int dn, .int wr, .int pw])), (tp, .inr (2, [.ref tb, .int ln])), (nw, .inr (0, [.ref n1, .ref n2, .ref n3, .ref n4, .int ex, .int ch])), (n2, .inl (cI, 200, .inl fi)), (n3, .inl (cI, 200, .inl si)), (te, .inl (cI, n, .inl u))]) hx hb hr hlocks hP hD hS t0 [0, 1, 2, 3, 4, 5, 6] rfl (by decide) (⟨by simp only [ep_kcount, ↓reduceIte, not_true_eq_false, not_false_eq_true, c_1, c_6, c_26], by rw [ep_count, if_pos s_40_0]⟩) d_D_count_75 (Nat.le_of_ble_eq_true rfl) (Nat.le_of_ble_eq_true rfl)
        by_cases s_40_1 : x = 1
        · refine lv_tableIn (off := 36) (tgt := 76) hx hb d_D_count_40 (by rw [s_40_1]; decide) (by rw [s_40_1]; decide) (by rw [s_40_1]; decide) (by decide) ?_
          refine lv_aload_n hx hb d_D_count_76 rfl (lv_at hl 0 rfl) ?_
          refine ey_Vi (Wc := [(d0, .inr (3, [.ref pl, .ref tp, .ref wi, .ref pg, .ref te, .ref nw, .ref nx])), (nw, .inr (0, [.ref n1, .ref n2, .ref n3, .ref n4, .int ex, .int ch])), (n2, .inl (cI, 200, .inl fi)), (n3, .inl (cI, 200, .inl si)), (te, .inl (cI, n, .inl t0))]) (wr := [(pl, .inr (1, [.ref pb, .int dn, .int wr, .int pw])), (tp, .inr (2, [.ref tb, .int ln]))]) (As := []) (rest := []) ⟨hx, hb, hml, hown, hts⟩ (c_ed_free l dC dI cI cB cJ cZ d0 pl tp wi pg te nw nx n1 n2 n3 n4 ex ch fi si n t0 hn hn2) (cwV 0 hts (ew_V ew_401 ew_403 ew_5 ew_13 g_D_freeBlocks) rfl rfl rfl (by decide +kernel) ⟨Nat.le_of_ble_eq_true rfl, Nat.le_of_ble_eq_true rfl⟩) hK hG hP hD hS hA [0, 3, 4, 5, 6] [1, 2] rfl rfl (by decide) (by decide) (by decide) (ci := 3) (q0 := 0) rfl rfl rfl hl.1 rfl (Nat.le_of_ble_eq_true rfl) d_D_count_77 ⟨Nat.le_of_ble_eq_true rfl, Nat.le_of_ble_eq_true rfl⟩ (fun r_1 u_2 H locs e_3 hP hD hS => ?_)
          have hP : va_P (dC, dI) vwCl [(pl, .inr (1, [.ref pb, .int dn, .int wr, .int pw])), (tp, .inr (2, [.ref tb, .int ln])), (d0, .inr (3, [.ref pl, .ref tp, .ref wi, .ref pg, .ref te, .ref nw, .ref nx])), (nw, .inr (0, [.ref n1, .ref n2, .ref n3, .ref n4, .int ex, .int ch])), (n2, .inl (cI, 200, .inl fi)), (n3, .inl (cI, 200, .inl si)), (te, .inl (cI, n, .inl u_2))] H := hP
          have hD : va_D A [(pl, .inr (1, [.ref pb, .int dn, .int wr, .int pw])), (tp, .inr (2, [.ref tb, .int ln])), (d0, .inr (3, [.ref pl, .ref tp, .ref wi, .ref pg, .ref te, .ref nw, .ref nx])), (nw, .inr (0, [.ref n1, .ref n2, .ref n3, .ref n4, .int ex, .int ch])), (n2, .inl (cI, 200, .inl fi)), (n3, .inl (cI, 200, .inl si)), (te, .inl (cI, n, .inl u_2))] := hD
          obtain ⟨rfl, rfl⟩ : r_1 = (ep_free fi si ex n t0).1 ∧ u_2 = (ep_free fi si ex n t0).2 := ⟨congrArg Prod.fst e_3, congrArg Prod.snd e_3⟩
          refine vx_ret ?_
          exact ey_iret (W1 := fun (u : ep_F) => [(d0, .inr (3, [.ref pl, .ref tp, .ref wi, .ref pg, .ref te, .ref nw, .ref nx])), (pl, .inr (1, [.ref pb, .int dn, .int wr, .int pw])), (tp, .inr (2, [.ref tb, .int ln])), (nw, .inr (0, [.ref n1, .ref n2, .ref n3, .ref n4, .int ex, .int ch])), (n2, .inl (cI, 200, .inl fi)), (n3, .inl (cI, 200, .inl si)), (te, .inl (cI, n, .inl u))]) hx hb hr hlocks hP hD hS ((ep_free fi si ex n t0).2) [2, 0, 1, 3, 4, 5, 6] rfl (by decide) (⟨by simp only [ep_kcount, ↓reduceIte, not_true_eq_false, not_false_eq_true, c_1, c_6, c_26], by rw [ep_count, if_neg s_40_0, if_pos s_40_1]⟩) d_D_count_80 (Nat.le_of_ble_eq_true rfl) (Nat.le_of_ble_eq_true rfl)
        by_cases s_40_2 : x = 2
        · refine lv_tableIn (off := 41) (tgt := 81) hx hb d_D_count_40 (by rw [s_40_2]; decide) (by rw [s_40_2]; decide) (by rw [s_40_2]; decide) (by decide) ?_
          refine lv_aload_n hx hb d_D_count_81 rfl (lv_at hl 0 rfl) ?_
          refine va_get (D := (dC, dI)) (ci := 3) (v := .ref tp) (C := R_D) (T := T_D) (N := 7) hx hb hts in_D hown hK hP 0 rfl rfl 1 (by decide) (hts _ ew_110) (fun _ h9 => h9) rfl d_D_count_82 ?_
          refine va_get (D := (dC, dI)) (ci := 2) (v := .int ln) (C := R_Tp) (T := T_Tp) (N := 2) hx hb hts in_Tp hown hK hP 2 rfl rfl 1 (by decide) (hts _ ew_71) (fun _ h9 => h9) rfl d_D_count_85 ?_
          refine vx_ret ?_
          exact ey_iret (W1 := fun (u : ep_F) => [(d0, .inr (3, [.ref pl, .ref tp, .ref wi, .ref pg, .ref te, .ref nw, .ref nx])), (pl, .inr (1, [.ref pb, .int dn, .int wr, .int pw])), (tp, .inr (2, [.ref tb, .int ln])), (nw, .inr (0, [.ref n1, .ref n2, .ref n3, .ref n4, .int ex, .int ch])), (n2, .inl (cI, 200, .inl fi)), (n3, .inl (cI, 200, .inl si)), (te, .inl (cI, n, .inl u))]) hx hb hr hlocks hP hD hS t0 [0, 1, 2, 3, 4, 5, 6] rfl (by decide) (⟨by simp only [ep_kcount, ↓reduceIte, not_true_eq_false, not_false_eq_true, c_1, c_6, c_26], by rw [ep_count, if_neg s_40_0, if_neg s_40_1, if_pos s_40_2]⟩) d_D_count_88 (Nat.le_of_ble_eq_true rfl) (Nat.le_of_ble_eq_true rfl)
        refine lv_tableOut (tgt := 89) hx hb d_D_count_40 (by have a0 := lv_neT (a := 0) s_40_0 (by decide); have a1 := lv_neT (a := 1) s_40_1 (by decide); have a2 := lv_neT (a := 2) s_40_2 (by decide); omega) (by decide) ?_
        refine lv_aload_n hx hb d_D_count_89 rfl (lv_at hl 0 rfl) ?_
        refine va_get (D := (dC, dI)) (ci := 3) (v := .ref nw) (C := R_D) (T := T_D) (N := 7) hx hb hts in_D hown hK hP 0 rfl rfl 5 (by decide) (hts _ ew_114) (fun _ h9 => h9) rfl d_D_count_90 ?_
        refine va_get (D := (dC, dI)) (ci := 0) (v := .int ch) (C := R_M) (T := T_M) (N := 6) hx hb hts in_M hown hK hP 3 rfl rfl 5 (by decide) (hts _ ew_94) (fun _ h9 => h9) rfl d_D_count_93 ?_
        refine vx_ret ?_
        exact ey_iret (W1 := fun (u : ep_F) => [(d0, .inr (3, [.ref pl, .ref tp, .ref wi, .ref pg, .ref te, .ref nw, .ref nx])), (pl, .inr (1, [.ref pb, .int dn, .int wr, .int pw])), (tp, .inr (2, [.ref tb, .int ln])), (nw, .inr (0, [.ref n1, .ref n2, .ref n3, .ref n4, .int ex, .int ch])), (n2, .inl (cI, 200, .inl fi)), (n3, .inl (cI, 200, .inl si)), (te, .inl (cI, n, .inl u))]) hx hb hr hlocks hP hD hS t0 [0, 1, 2, 3, 4, 5, 6] rfl (by decide) (⟨by simp only [ep_kcount, ↓reduceIte, not_true_eq_false, not_false_eq_true, c_1, c_6, c_26], by rw [ep_count, if_neg s_40_0, if_neg s_40_1, if_neg s_40_2]⟩) d_D_count_96 (Nat.le_of_ble_eq_true rfl) (Nat.le_of_ble_eq_true rfl)
      · have hP9 : va_P (dC, dI) vwCl [(d0, .inr (3, [.ref pl, .ref tp, .ref wi, .ref pg, .ref te, .ref nw, .ref nx])), (pl, .inr (1, [.ref pb, .int dn, .int wr, .int pw])), (tp, .inr (2, [.ref tb, .int ln])), (nw, .inr (0, [.ref n1, .ref n2, .ref n3, .ref n4, .int ex, .int ch])), (n2, .inl (cI, 200, .inl fi)), (n3, .inl (cI, 200, .inl si)), (te, .inl (cI, n, .inl t0))] _ := ey_P (is := [0, 1, 2, 3, 4, 5, 6]) hP rfl
        have hD9 : va_D A [(d0, .inr (3, [.ref pl, .ref tp, .ref wi, .ref pg, .ref te, .ref nw, .ref nx])), (pl, .inr (1, [.ref pb, .int dn, .int wr, .int pw])), (tp, .inr (2, [.ref tb, .int ln])), (nw, .inr (0, [.ref n1, .ref n2, .ref n3, .ref n4, .int ex, .int ch])), (n2, .inl (cI, 200, .inl fi)), (n3, .inl (cI, 200, .inl si)), (te, .inl (cI, n, .inl t0))] := hD.sub [0, 1, 2, 3, 4, 5, 6] (by decide) rfl
        obtain ⟨sa9, hstr9⟩ := ex_str (k := 86) (t := "the store is down") hG (by decide +kernel)
        exact vx_throwS (names := ["java/lang/RuntimeException", "java/lang/Exception"]) hx hb hl9 hown (by decide +kernel) (by decide +kernel) (hts _ ew_260) (hts _ ew_23) hstr9 (ex_hatS hG hts) ex_goodS hZ.1 hZ.2 hS (by rw [hml]; exact hl.1) d_D_count_29 d_D_count_32 d_D_count_33 d_D_count_35 d_D_count_38 (fun x h9 => (hno x h9).elim) (Nat.le_of_ble_eq_true rfl) (Nat.le_of_ble_eq_true rfl) (Nat.le_of_ble_eq_true rfl) (Nat.le_of_ble_eq_true rfl) hlocks (fun t _ hz hk => ⟨(), trivial, ⟨Or.inr ⟨rfl, by simp only [ep_kcount, ↓reduceIte, not_true_eq_false, not_false_eq_true, c_1, c_6, c_26]⟩, (ey_keptX hP9 hD9 hS hz hk).1⟩, (ey_keptX hP9 hD9 hS hz hk).2⟩) hS.2.2 (Nat.le_of_ble_eq_true rfl) (Nat.le_of_ble_eq_true rfl)
    · have hP9 : va_P (dC, dI) vwCl [(d0, .inr (3, [.ref pl, .ref tp, .ref wi, .ref pg, .ref te, .ref nw, .ref nx])), (pl, .inr (1, [.ref pb, .int dn, .int wr, .int pw])), (tp, .inr (2, [.ref tb, .int ln])), (nw, .inr (0, [.ref n1, .ref n2, .ref n3, .ref n4, .int ex, .int ch])), (n2, .inl (cI, 200, .inl fi)), (n3, .inl (cI, 200, .inl si)), (te, .inl (cI, n, .inl t0))] _ := ey_P (is := [0, 1, 2, 3, 4, 5, 6]) hP rfl
      have hD9 : va_D A [(d0, .inr (3, [.ref pl, .ref tp, .ref wi, .ref pg, .ref te, .ref nw, .ref nx])), (pl, .inr (1, [.ref pb, .int dn, .int wr, .int pw])), (tp, .inr (2, [.ref tb, .int ln])), (nw, .inr (0, [.ref n1, .ref n2, .ref n3, .ref n4, .int ex, .int ch])), (n2, .inl (cI, 200, .inl fi)), (n3, .inl (cI, 200, .inl si)), (te, .inl (cI, n, .inl t0))] := hD.sub [0, 1, 2, 3, 4, 5, 6] (by decide) rfl
      obtain ⟨sa9, hstr9⟩ := ex_str (k := 129) (t := "what is not 0 .. 3") hG (by decide +kernel)
      exact vx_throwS (names := ["java/lang/RuntimeException", "java/lang/Exception"]) hx hb hl9 hown (by decide +kernel) (by decide +kernel) (hts _ ew_190) (hts _ ew_22) hstr9 (ex_hatA hG hts) ex_goodA hZ.1 hZ.2 hS (by rw [hml]; exact hl.1) d_D_count_9 d_D_count_12 d_D_count_13 d_D_count_15 d_D_count_18 (fun x h9 => (hno x h9).elim) (Nat.le_of_ble_eq_true rfl) (Nat.le_of_ble_eq_true rfl) (Nat.le_of_ble_eq_true rfl) (Nat.le_of_ble_eq_true rfl) hlocks (fun t _ hz hk => ⟨(), trivial, ⟨Or.inl ⟨rfl, by simp only [ep_kcount, ↓reduceIte, not_true_eq_false, not_false_eq_true, c_1, c_6]⟩, (ey_keptX hP9 hD9 hS hz hk).1⟩, (ey_keptX hP9 hD9 hS hz hk).2⟩) hS.2.2 (Nat.le_of_ble_eq_true rfl) (Nat.le_of_ble_eq_true rfl)
set_option maxHeartbeats 4000000 in
set_option maxRecDepth 100000 in
theorem c_ed_doubled_L {p : Program} {l : Launch} {e : Env} {s : State} {m : MethodId} {args : Array Value} {below : List Frame} {meth : Method} {c : Code} {dC : Nat → ClassId} {dI : Nat → Nat → Nat} {cI cB cJ cZ : ClassId} {A : Nat → Prop} {d0 pl tp wi pg te nw nx : Nat} {pb : Nat} {dn wr pw : Int32} {n1 n2 n3 n4 : Nat} {ex ch : Int32} {fi si : ep_F} {n : Nat} {t0 : ep_F} (hn : n < 2 ^ 30) (hk0 : ep_kdown dn = 0) (hK : va_K (dC, dI) vwCl (ey_kt cI cB cJ cZ) s) (hG : ex_G s) (C0 : ey_Cx p s m args meth c b_D_doubled 3 R_D ew_T (some .int) A)  :
    ∀ (fuel : Nat) (i : Nat) (a : Int32) (hi : i + fuel = n + 1) (hin : i ≤ n) (hu : ep_db n (ep_ten fi si ex n t0) fuel i a = ep_db n (ep_ten fi si ex n t0) (n + 1) 0 0), ∀ (H : Heap) (locs : List Loc), va_P (dC, dI) vwCl [(d0, .inr (3, [.ref pl, .ref tp, .ref wi, .ref pg, .ref te, .ref nw, .ref nx])), (pl, .inr (1, [.ref pb, .int dn, .int wr, .int pw])), (nw, .inr (0, [.ref n1, .ref n2, .ref n3, .ref n4, .int ex, .int ch])), (n2, .inl (cI, 200, .inl fi)), (n3, .inl (cI, 200, .inl si)), (te, .inl (cI, n, .inl (ep_ten fi si ex n t0)))] H → va_D A [(d0, .inr (3, [.ref pl, .ref tp, .ref wi, .ref pg, .ref te, .ref nw, .ref nx])), (pl, .inr (1, [.ref pb, .int dn, .int wr, .int pw])), (nw, .inr (0, [.ref n1, .ref n2, .ref n3, .ref n4, .int ex, .int ch])), (n2, .inl (cI, 200, .inl fi)), (n3, .inl (cI, 200, .inl si)), (te, .inl (cI, n, .inl (ep_ten fi si ex n t0)))] → va_S A s.heap H locs → ∀ (ls : Array Slot), lv_has ls 3 [(0, .ref d0), (1, .int a), (2, .int (nI i))] → W p l e { frames := 6, cells := 1, slots := 6, locals := 90 } s m args below meth c H locs 0 0 (vx_MQ below (va_Qi (fun (r : Int32) (u : ep_F) => ep_kdown dn = 0 ∧ (r, u) = ep_doubled fi si ex n t0) (fun u t => ey_Post (dC, dI) vwCl A ((fun (u : ep_F) => [(d0, .inr (3, [.ref pl, .ref tp, .ref wi, .ref pg, .ref te, .ref nw, .ref nx])), (pl, .inr (1, [.ref pb, .int dn, .int wr, .int pw])), (nw, .inr (0, [.ref n1, .ref n2, .ref n3, .ref n4, .int ex, .int ch])), (n2, .inl (cI, 200, .inl fi)), (n3, .inl (cI, 200, .inl si)), (te, .inl (cI, n, .inl u))]) u) t) A) (vx_X (fun _ : Unit => True) (fun E _ t => (fun E => (E = "java/lang/IllegalArgumentException" ∧ ep_kdown dn = 1) ∨ (E = "java/lang/IllegalStateException" ∧ ep_kdown dn = 2)) E ∧ ey_Post (dC, dI) vwCl A [(d0, .inr (3, [.ref pl, .ref tp, .ref wi, .ref pg, .ref te, .ref nw, .ref nx])), (pl, .inr (1, [.ref pb, .int dn, .int wr, .int pw])), (nw, .inr (0, [.ref n1, .ref n2, .ref n3, .ref n4, .int ex, .int ch])), (n2, .inl (cI, 200, .inl fi)), (n3, .inl (cI, 200, .inl si)), (te, .inl (cI, n, .inl t0))] t) A) args s 1 6 A) (F0 m 35 ls []) := by
  obtain ⟨hx, hb, hml, hown, hts, hr, hlocks, hA⟩ := id C0
  intro fuel
  induction fuel with
  | zero =>
    intro i a hi hin hu H locs hP hD hS ls hl
    exact absurd hi (by omega)
  | succ fuel ih =>
    intro i a hi hin hu H locs hP hD hS ls hl
    refine lv_iload_n hx hb d_D_doubled_35 rfl (lv_at hl 2 rfl) ?_
    refine lv_aload_n hx hb d_D_doubled_36 rfl (lv_at hl 0 rfl) ?_
    refine va_get (D := (dC, dI)) (ci := 3) (v := .ref te) (C := R_D) (T := T_D) (N := 7) hx hb hts in_D hown hK hP 0 rfl rfl 4 (by decide) (hts _ ew_113) (fun _ h9 => h9) rfl d_D_doubled_37 ?_
    refine va_alen hx hb hK hP 5 0 rfl rfl (v := nI n) rfl d_D_doubled_40 ?_
    refine lv_icmp_ge (tgt := 65) hx hb d_D_doubled_41 (by decide) (fun c_41 => ?_) (fun c_41 => ?_)
    · refine lv_iload_n hx hb d_D_doubled_65 rfl (lv_at hl 1 rfl) ?_
      refine vx_ret ?_
      exact ey_iret (W1 := fun (u : ep_F) => [(d0, .inr (3, [.ref pl, .ref tp, .ref wi, .ref pg, .ref te, .ref nw, .ref nx])), (pl, .inr (1, [.ref pb, .int dn, .int wr, .int pw])), (nw, .inr (0, [.ref n1, .ref n2, .ref n3, .ref n4, .int ex, .int ch])), (n2, .inl (cI, 200, .inl fi)), (n3, .inl (cI, 200, .inl si)), (te, .inl (cI, n, .inl u))]) hx hb hr hlocks hP hD hS (ep_ten fi si ex n t0) [0, 1, 2, 3, 4, 5] rfl (by decide) (⟨hk0, by rw [ep_doubled, ← hu]; simp only [ep_db, ↓reduceIte, c_41]⟩) d_D_doubled_66 (Nat.le_of_ble_eq_true rfl) (Nat.le_of_ble_eq_true rfl)
    · refine lv_iload_n hx hb d_D_doubled_44 rfl (lv_at hl 1 rfl) ?_
      refine lv_iconst (v := 0) hx hb d_D_doubled_45 (by decide) ?_
      refine lv_aload_n hx hb d_D_doubled_46 rfl (lv_at hl 0 rfl) ?_
      refine va_get (D := (dC, dI)) (ci := 3) (v := .ref te) (C := R_D) (T := T_D) (N := 7) hx hb hts in_D hown hK hP 0 rfl rfl 4 (by decide) (hts _ ew_113) (fun _ h9 => h9) rfl d_D_doubled_47 ?_
      refine lv_iload_n hx hb d_D_doubled_50 rfl (lv_at hl 2 rfl) ?_
      refine va_iald hx hb hK hP 5 0 rfl rfl (vp_in_nI (by rw [nI_leI (by omega) (by omega)] at c_41; omega) (by omega)) d_D_doubled_51 ?_
      refine lv_iconst (v := 1) hx hb d_D_doubled_52 (by decide) ?_
      refine lv_isub hx hb d_D_doubled_53 ?_
      refine va_mmax hx hb (by rw [hml]; exact hl.1.symm) hown (hts _ ew_37) (hts _ ew_38) (hts _ ew_14) (hts _ ew_39) (Nat.le_of_ble_eq_true rfl) (Nat.le_of_ble_eq_true rfl) (Nat.le_of_ble_eq_true rfl) (Nat.le_of_ble_eq_true rfl) d_D_doubled_54 ?_
      refine lv_iadd hx hb d_D_doubled_57 ?_
      refine lv_istore_n (lv' := [(1, .int (a + (if 0 < (((ep_ten fi si ex n t0) (nI i).toNatClampNeg) - 1) then (((ep_ten fi si ex n t0) (nI i).toNatClampNeg) - 1) else 0 : Int32))), (0, .ref d0), (2, .int (nI i))]) hx hb d_D_doubled_58 rfl hl (by decide) rfl (fun ls hl => ?_)
      refine lv_iinc (v := nI (i + 1)) (lv' := [(2, .int (nI (i + 1))), (1, .int (a + (if 0 < (((ep_ten fi si ex n t0) (nI i).toNatClampNeg) - 1) then (((ep_ten fi si ex n t0) (nI i).toNatClampNeg) - 1) else 0 : Int32))), (0, .ref d0)]) hx hb d_D_doubled_59 hl (k := 2) rfl (nI_1 i) (by decide) rfl (fun ls hl => ?_)
      refine lv_goto (tgt := 35) hx hb d_D_doubled_62 (by decide) ?_
      exact ih (i + 1) (a + (if 0 < (ep_ten fi si ex n t0) (nI i).toNatClampNeg - 1 then (ep_ten fi si ex n t0) (nI i).toNatClampNeg - 1 else 0)) (by omega) (by rw [nI_leI (by omega) (by omega)] at c_41; omega) (by rw [← hu]; simp only [ep_db, ↓reduceIte, c_41]) _ _ hP hD hS ls (lv_sub hl [2, 1, 0] rfl)
set_option maxHeartbeats 4000000 in
set_option maxRecDepth 100000 in
theorem c_ed_doubled (l : Launch) (dC : Nat → ClassId) (dI : Nat → Nat → Nat) (cI cB cJ cZ : ClassId) (hl9 : l.stackTraces = false) (d0 pl tp wi pg te nw nx : Nat) (pb : Nat) (dn wr pw : Int32) (n1 n2 n3 n4 : Nat) (ex ch : Int32) (fi si : ep_F) (n : Nat) (t0 : ep_F) (hn : n < 2 ^ 30) : ey_Xi l y_D_doubled w_D_doubled { frames := 6, cells := 1, slots := 6, locals := 90 } (dC, dI) vwCl (ey_kt cI cB cJ cZ) [.ref d0] [(d0, .inr (3, [.ref pl, .ref tp, .ref wi, .ref pg, .ref te, .ref nw, .ref nx])), (pl, .inr (1, [.ref pb, .int dn, .int wr, .int pw])), (nw, .inr (0, [.ref n1, .ref n2, .ref n3, .ref n4, .int ex, .int ch])), (n2, .inl (cI, 200, .inl fi)), (n3, .inl (cI, 200, .inl si)), (te, .inl (cI, n, .inl t0))] (fun (r : Int32) (u : ep_F) => ep_kdown dn = 0 ∧ (r, u) = ep_doubled fi si ex n t0) (fun (u : ep_F) => [(d0, .inr (3, [.ref pl, .ref tp, .ref wi, .ref pg, .ref te, .ref nw, .ref nx])), (pl, .inr (1, [.ref pb, .int dn, .int wr, .int pw])), (nw, .inr (0, [.ref n1, .ref n2, .ref n3, .ref n4, .int ex, .int ch])), (n2, .inl (cI, 200, .inl fi)), (n3, .inl (cI, 200, .inl si)), (te, .inl (cI, n, .inl u))]) (fun E => (E = "java/lang/IllegalArgumentException" ∧ ep_kdown dn = 1) ∨ (E = "java/lang/IllegalStateException" ∧ ep_kdown dn = 2)) 1 6 := by
  intro sz
  refine vx_ofW (cc := b_D_doubled) (maxL := 3) (ret := (some .int)) (by decide) rfl ?_
  intro p e s m args below meth c s₁ B hml hno hv
  obtain ⟨rfl, hZ, hsz, hP, hK, hG, hD0⟩ := hv
  have hx := B.exec
  have hb := B.bytes
  have hr := B.returns
  have hts := fun (w : Cond) (h : w ∈ ew_T) => atoms_spec (ws := w_D_doubled) B.pre w (List.mem_cons_of_mem _ h)
  have hown : s.vm.findClass R_D = some m.cls := findClass_of_methodNamed B.named
  have hlocks := B.notSynchronized
  subst hsz
  have hD := hD0.self (sz := s.heap.size)
  generalize hAe : va_A [(d0, .inr (3, [.ref pl, .ref tp, .ref wi, .ref pg, .ref te, .ref nw, .ref nx])), (pl, .inr (1, [.ref pb, .int dn, .int wr, .int pw])), (nw, .inr (0, [.ref n1, .ref n2, .ref n3, .ref n4, .int ex, .int ch])), (n2, .inl (cI, 200, .inl fi)), (n3, .inl (cI, 200, .inl si)), (te, .inl (cI, n, .inl t0))] s.heap.size = A at hD hZ ⊢
  have hA : ∀ q : Nat, s.heap.size ≤ q → A q := fun q h => by rw [← hAe]; exact Or.inr h
  have hS : va_S A s.heap s.heap [] := va_S.rf
  have hP : va_P (dC, dI) vwCl [(d0, .inr (3, [.ref pl, .ref tp, .ref wi, .ref pg, .ref te, .ref nw, .ref nx])), (pl, .inr (1, [.ref pb, .int dn, .int wr, .int pw])), (nw, .inr (0, [.ref n1, .ref n2, .ref n3, .ref n4, .int ex, .int ch])), (n2, .inl (cI, 200, .inl fi)), (n3, .inl (cI, 200, .inl si)), (te, .inl (cI, n, .inl t0))] s.heap := hP
  have hl := lv_entry ([.ref d0]) (n := 3) (Nat.le_of_ble_eq_true rfl)
  rw [lg_entry_eq]
  generalize (lg_sl ([.ref d0]) ++ List.replicate (3 - (lg_sl ([.ref d0])).length) Slot.unset).toArray = ls at hl ⊢
  have hl : lv_has ls 3 [(0, .ref d0)] := hl
  have C0 : ey_Cx p s m [.ref d0].toArray meth c b_D_doubled 3 R_D ew_T (some .int) A := ⟨hx, hb, hml, hown, hts, hr, hlocks, hA⟩
  refine lv_aload_n hx hb d_D_doubled_0 rfl (lv_at hl 0 rfl) ?_
  refine va_get (D := (dC, dI)) (ci := 3) (v := .ref pl) (C := R_D) (T := T_D) (N := 7) hx hb hts in_D hown hK hP 0 rfl rfl 0 (by decide) (hts _ ew_109) (fun _ h9 => h9) rfl d_D_doubled_1 ?_
  refine va_get (D := (dC, dI)) (ci := 1) (v := .int dn) (C := R_P) (T := T_P) (N := 4) hx hb hts in_P hown hK hP 1 rfl rfl 1 (by decide) (hts _ ew_48) (fun _ h9 => h9) rfl d_D_doubled_4 ?_
  refine lv_if_eq (tgt := 20) hx hb d_D_doubled_7 (by decide) (fun c_7 => ?_) (fun c_7 => ?_)
  · refine lv_aload_n hx hb d_D_doubled_20 rfl (lv_at hl 0 rfl) ?_
    refine va_get (D := (dC, dI)) (ci := 3) (v := .ref nw) (C := R_D) (T := T_D) (N := 7) hx hb hts in_D hown hK hP 0 rfl rfl 5 (by decide) (hts _ ew_114) (fun _ h9 => h9) rfl d_D_doubled_21 ?_
    refine lv_aload_n hx hb d_D_doubled_24 rfl (lv_at hl 0 rfl) ?_
    refine va_get (D := (dC, dI)) (ci := 3) (v := .ref te) (C := R_D) (T := T_D) (N := 7) hx hb hts in_D hown hK hP 0 rfl rfl 4 (by decide) (hts _ ew_113) (fun _ h9 => h9) rfl d_D_doubled_25 ?_
    refine ey_Vv (Wc := [(nw, .inr (0, [.ref n1, .ref n2, .ref n3, .ref n4, .int ex, .int ch])), (n2, .inl (cI, 200, .inl fi)), (n3, .inl (cI, 200, .inl si)), (te, .inl (cI, n, .inl t0))]) (wr := [(d0, .inr (3, [.ref pl, .ref tp, .ref wi, .ref pg, .ref te, .ref nw, .ref nx])), (pl, .inr (1, [.ref pb, .int dn, .int wr, .int pw]))]) (As := [.ref te]) (rest := []) ⟨hx, hb, hml, hown, hts⟩ (c_mf_count l dC dI cI cB cJ cZ nw n1 n2 n3 n4 ex ch fi si te n t0 hn) (cwV 1 hts (ew_V ew_334 ew_335 ew_336 ew_17 g_M_countTenants) rfl rfl rfl (by decide +kernel) ⟨Nat.le_of_ble_eq_true rfl, Nat.le_of_ble_eq_true rfl⟩) hK hG hP hD hS hA [2, 3, 4, 5] [0, 1] rfl rfl (by decide) (by decide) (by decide) (ci := 0) (q0 := 0) rfl rfl rfl hl.1 rfl (Nat.le_of_ble_eq_true rfl) d_D_doubled_28 ⟨Nat.le_of_ble_eq_true rfl, Nat.le_of_ble_eq_true rfl⟩ (fun u_2 H locs e_3 hP hD hS => ?_)
    have hP : va_P (dC, dI) vwCl [(d0, .inr (3, [.ref pl, .ref tp, .ref wi, .ref pg, .ref te, .ref nw, .ref nx])), (pl, .inr (1, [.ref pb, .int dn, .int wr, .int pw])), (nw, .inr (0, [.ref n1, .ref n2, .ref n3, .ref n4, .int ex, .int ch])), (n2, .inl (cI, 200, .inl fi)), (n3, .inl (cI, 200, .inl si)), (te, .inl (cI, n, .inl u_2))] H := hP
    have hD : va_D A [(d0, .inr (3, [.ref pl, .ref tp, .ref wi, .ref pg, .ref te, .ref nw, .ref nx])), (pl, .inr (1, [.ref pb, .int dn, .int wr, .int pw])), (nw, .inr (0, [.ref n1, .ref n2, .ref n3, .ref n4, .int ex, .int ch])), (n2, .inl (cI, 200, .inl fi)), (n3, .inl (cI, 200, .inl si)), (te, .inl (cI, n, .inl u_2))] := hD
    subst e_3
    refine lv_iconst (v := 0) hx hb d_D_doubled_31 (by decide) ?_
    refine lv_istore_n (lv' := [(1, .int 0), (0, .ref d0)]) hx hb d_D_doubled_32 rfl hl (by decide) rfl (fun ls hl => ?_)
    refine lv_iconst (v := nI 0) hx hb d_D_doubled_33 (by decide) ?_
    refine lv_istore_n (lv' := [(2, .int (nI 0)), (1, .int 0), (0, .ref d0)]) hx hb d_D_doubled_34 rfl hl (by decide) rfl (fun ls hl => ?_)
    have hk0 : ep_kdown dn = 0 := by simp only [ep_kdown, ↓reduceIte, not_true_eq_false, not_false_eq_true, c_7]
    exact c_ed_doubled_L (d0 := d0) (pl := pl) (tp := tp) (wi := wi) (pg := pg) (te := te) (nw := nw) (nx := nx) (pb := pb) (dn := dn) (wr := wr) (pw := pw) (n1 := n1) (n2 := n2) (n3 := n3) (n4 := n4) (ex := ex) (ch := ch) (fi := fi) (si := si) (n := n) (t0 := t0) hn hk0 hK hG C0 (n + 1) 0 0 (by omega) (by omega) rfl _ _ hP hD hS ls (lv_sub hl [2, 1, 0] rfl)
  · have hP9 : va_P (dC, dI) vwCl [(d0, .inr (3, [.ref pl, .ref tp, .ref wi, .ref pg, .ref te, .ref nw, .ref nx])), (pl, .inr (1, [.ref pb, .int dn, .int wr, .int pw])), (nw, .inr (0, [.ref n1, .ref n2, .ref n3, .ref n4, .int ex, .int ch])), (n2, .inl (cI, 200, .inl fi)), (n3, .inl (cI, 200, .inl si)), (te, .inl (cI, n, .inl t0))] _ := ey_P (is := [0, 1, 2, 3, 4, 5]) hP rfl
    have hD9 : va_D A [(d0, .inr (3, [.ref pl, .ref tp, .ref wi, .ref pg, .ref te, .ref nw, .ref nx])), (pl, .inr (1, [.ref pb, .int dn, .int wr, .int pw])), (nw, .inr (0, [.ref n1, .ref n2, .ref n3, .ref n4, .int ex, .int ch])), (n2, .inl (cI, 200, .inl fi)), (n3, .inl (cI, 200, .inl si)), (te, .inl (cI, n, .inl t0))] := hD.sub [0, 1, 2, 3, 4, 5] (by decide) rfl
    obtain ⟨sa9, hstr9⟩ := ex_str (k := 86) (t := "the store is down") hG (by decide +kernel)
    exact vx_throwS (names := ["java/lang/RuntimeException", "java/lang/Exception"]) hx hb hl9 hown (by decide +kernel) (by decide +kernel) (hts _ ew_260) (hts _ ew_23) hstr9 (ex_hatS hG hts) ex_goodS hZ.1 hZ.2 hS (by rw [hml]; exact hl.1) d_D_doubled_10 d_D_doubled_13 d_D_doubled_14 d_D_doubled_16 d_D_doubled_19 (fun x h9 => (hno x h9).elim) (Nat.le_of_ble_eq_true rfl) (Nat.le_of_ble_eq_true rfl) (Nat.le_of_ble_eq_true rfl) (Nat.le_of_ble_eq_true rfl) hlocks (fun t _ hz hk => ⟨(), trivial, ⟨Or.inr ⟨rfl, by simp only [ep_kdown, ↓reduceIte, not_true_eq_false, not_false_eq_true, c_7]⟩, (ey_keptX hP9 hD9 hS hz hk).1⟩, (ey_keptX hP9 hD9 hS hz hk).2⟩) hS.2.2 (Nat.le_of_ble_eq_true rfl) (Nat.le_of_ble_eq_true rfl)
end
section
set_option maxHeartbeats 4000000 in
set_option maxRecDepth 100000 in
theorem c_ed_recover (l : Launch) (dC : Nat → ClassId) (dI : Nat → Nat → Nat) (cI cB cJ cZ : ClassId) (d0 pl tp wi pg te nw nx : Nat) (pb : Nat) (dn wr pw : Int32) (nb : Nat) (pf : ep_F) (tb : Nat) (ln : Int32) (wf : ep_F) (n1 n2 n3 n4 : Nat) (ex ch : Int32) (la fi si no : ep_F) (x1 x2 x3 x4 : Nat) (xex xch : Int32) (xla xfi xsi xno : ep_F) (hnb : nb < 2 ^ 30) : ey_Mi l y_D_recover w_D_recover { frames := 3, cells := 0, slots := 0, locals := 80 } (dC, dI) vwCl (ey_kt cI cB cJ cZ) [.ref d0] [(d0, .inr (3, [.ref pl, .ref tp, .ref wi, .ref pg, .ref te, .ref nw, .ref nx])), (pl, .inr (1, [.ref pb, .int dn, .int wr, .int pw])), (pb, .inl (cB, nb, .inl pf)), (tp, .inr (2, [.ref tb, .int ln])), (wi, .inl (cI, 24, .inl wf)), (nw, .inr (0, [.ref n1, .ref n2, .ref n3, .ref n4, .int ex, .int ch])), (n1, .inl (cI, 200, .inl la)), (n2, .inl (cI, 200, .inl fi)), (n3, .inl (cI, 200, .inl si)), (n4, .inl (cI, 24, .inl no)), (nx, .inr (0, [.ref x1, .ref x2, .ref x3, .ref x4, .int xex, .int xch])), (x1, .inl (cI, 200, .inl xla)), (x2, .inl (cI, 200, .inl xfi)), (x3, .inl (cI, 200, .inl xsi)), (x4, .inl (cI, 24, .inl xno))] (fun (r : Int32) (u : (Nat × Nat) × ep_M × ep_M × ep_F) => (r, u) = ep_recover nw nx nb pf ((la, fi, si, ex), no, ch) ((xla, xfi, xsi, xex), xno, xch) wf) (fun (u : (Nat × Nat) × ep_M × ep_M × ep_F) => [(d0, .inr (3, [.ref pl, .ref tp, .ref wi, .ref pg, .ref te, .ref u.1.1, .ref u.1.2])), (pl, .inr (1, [.ref pb, .int (ep_down (-1)), .int wr, .int (-1)])), (pb, .inl (cB, nb, .inl pf)), (tp, .inr (2, [.ref tb, .int 0])), (wi, .inl (cI, 24, .inl u.2.2.2)), (nw, .inr (0, [.ref n1, .ref n2, .ref n3, .ref n4, .int u.2.1.1.2.2.2, .int u.2.1.2.2])), (n1, .inl (cI, 200, .inl u.2.1.1.1)), (n2, .inl (cI, 200, .inl u.2.1.1.2.1)), (n3, .inl (cI, 200, .inl u.2.1.1.2.2.1)), (n4, .inl (cI, 24, .inl u.2.1.2.1)), (nx, .inr (0, [.ref x1, .ref x2, .ref x3, .ref x4, .int u.2.2.1.1.2.2.2, .int u.2.2.1.2.2])), (x1, .inl (cI, 200, .inl u.2.2.1.1.1)), (x2, .inl (cI, 200, .inl u.2.2.1.1.2.1)), (x3, .inl (cI, 200, .inl u.2.2.1.1.2.2.1)), (x4, .inl (cI, 24, .inl u.2.2.1.2.1))]) 0 0 := by
  intro sz
  refine Met.ofW (cc := b_D_recover) (maxL := 1) (ret := (some .int)) (by decide) rfl ?_
  intro p e s m args below meth c s₁ B hml hv
  obtain ⟨rfl, hsz, hP, hK, hG, hD0⟩ := hv
  have hx := B.exec
  have hb := B.bytes
  have hr := B.returns
  have hts := fun (w : Cond) (h : w ∈ ew_T) => atoms_spec (ws := w_D_recover) B.pre w (List.mem_cons_of_mem _ h)
  have hown : s.vm.findClass R_D = some m.cls := findClass_of_methodNamed B.named
  have hlocks := B.notSynchronized
  subst hsz
  have hD := hD0.self (sz := s.heap.size)
  generalize hAe : va_A [(d0, .inr (3, [.ref pl, .ref tp, .ref wi, .ref pg, .ref te, .ref nw, .ref nx])), (pl, .inr (1, [.ref pb, .int dn, .int wr, .int pw])), (pb, .inl (cB, nb, .inl pf)), (tp, .inr (2, [.ref tb, .int ln])), (wi, .inl (cI, 24, .inl wf)), (nw, .inr (0, [.ref n1, .ref n2, .ref n3, .ref n4, .int ex, .int ch])), (n1, .inl (cI, 200, .inl la)), (n2, .inl (cI, 200, .inl fi)), (n3, .inl (cI, 200, .inl si)), (n4, .inl (cI, 24, .inl no)), (nx, .inr (0, [.ref x1, .ref x2, .ref x3, .ref x4, .int xex, .int xch])), (x1, .inl (cI, 200, .inl xla)), (x2, .inl (cI, 200, .inl xfi)), (x3, .inl (cI, 200, .inl xsi)), (x4, .inl (cI, 24, .inl xno))] s.heap.size = A at hD ⊢
  have hA : ∀ q : Nat, s.heap.size ≤ q → A q := fun q h => by rw [← hAe]; exact Or.inr h
  have hS : va_S A s.heap s.heap [] := va_S.rf
  have hP : va_P (dC, dI) vwCl [(d0, .inr (3, [.ref pl, .ref tp, .ref wi, .ref pg, .ref te, .ref nw, .ref nx])), (pl, .inr (1, [.ref pb, .int dn, .int wr, .int pw])), (pb, .inl (cB, nb, .inl pf)), (tp, .inr (2, [.ref tb, .int ln])), (wi, .inl (cI, 24, .inl wf)), (nw, .inr (0, [.ref n1, .ref n2, .ref n3, .ref n4, .int ex, .int ch])), (n1, .inl (cI, 200, .inl la)), (n2, .inl (cI, 200, .inl fi)), (n3, .inl (cI, 200, .inl si)), (n4, .inl (cI, 24, .inl no)), (nx, .inr (0, [.ref x1, .ref x2, .ref x3, .ref x4, .int xex, .int xch])), (x1, .inl (cI, 200, .inl xla)), (x2, .inl (cI, 200, .inl xfi)), (x3, .inl (cI, 200, .inl xsi)), (x4, .inl (cI, 24, .inl xno))] s.heap := hP
  have hl := lv_entry ([.ref d0]) (n := 1) (Nat.le_of_ble_eq_true rfl)
  rw [lg_entry_eq]
  generalize (lg_sl ([.ref d0]) ++ List.replicate (1 - (lg_sl ([.ref d0])).length) Slot.unset).toArray = ls at hl ⊢
  have hl : lv_has ls 1 [(0, .ref d0)] := hl
  refine lv_aload_n hx hb d_D_recover_0 rfl (lv_at hl 0 rfl) ?_
  refine va_get (D := (dC, dI)) (ci := 3) (v := .ref pl) (C := R_D) (T := T_D) (N := 7) hx hb hts in_D hown hK hP 0 rfl rfl 0 (by decide) (hts _ ew_109) (fun _ h9 => h9) rfl d_D_recover_1 ?_
  refine lv_iconst (v := (-1)) hx hb d_D_recover_4 (by decide) ?_
  refine ey_Vv (Wc := [(pl, .inr (1, [.ref pb, .int dn, .int wr, .int pw]))]) (wr := [(d0, .inr (3, [.ref pl, .ref tp, .ref wi, .ref pg, .ref te, .ref nw, .ref nx])), (pb, .inl (cB, nb, .inl pf)), (tp, .inr (2, [.ref tb, .int ln])), (wi, .inl (cI, 24, .inl wf)), (nw, .inr (0, [.ref n1, .ref n2, .ref n3, .ref n4, .int ex, .int ch])), (n1, .inl (cI, 200, .inl la)), (n2, .inl (cI, 200, .inl fi)), (n3, .inl (cI, 200, .inl si)), (n4, .inl (cI, 24, .inl no)), (nx, .inr (0, [.ref x1, .ref x2, .ref x3, .ref x4, .int xex, .int xch])), (x1, .inl (cI, 200, .inl xla)), (x2, .inl (cI, 200, .inl xfi)), (x3, .inl (cI, 200, .inl xsi)), (x4, .inl (cI, 24, .inl xno))]) (As := [.int (-1)]) (rest := []) ⟨hx, hb, hml, hown, hts⟩ (c_pl_limit l dC dI cI cB cJ cZ pl pb dn wr pw (-1)) (cwV 1 hts (ew_V ew_135 ew_136 ew_137 ew_15 g_P_limitPower) rfl rfl rfl (by decide +kernel) ⟨Nat.le_of_ble_eq_true rfl, Nat.le_of_ble_eq_true rfl⟩) hK hG hP hD hS hA [1] [0, 2, 3, 4, 5, 6, 7, 8, 9, 10, 11, 12, 13, 14] rfl rfl (by decide) (by decide) (by decide) (ci := 1) (q0 := 0) rfl rfl rfl hl.1 rfl (Nat.le_of_ble_eq_true rfl) d_D_recover_5 ⟨Nat.le_of_ble_eq_true rfl, Nat.le_of_ble_eq_true rfl⟩ (fun u_2 H locs e_3 hP hD hS => ?_)
  have hP : va_P (dC, dI) vwCl [(d0, .inr (3, [.ref pl, .ref tp, .ref wi, .ref pg, .ref te, .ref nw, .ref nx])), (pb, .inl (cB, nb, .inl pf)), (tp, .inr (2, [.ref tb, .int ln])), (wi, .inl (cI, 24, .inl wf)), (nw, .inr (0, [.ref n1, .ref n2, .ref n3, .ref n4, .int ex, .int ch])), (n1, .inl (cI, 200, .inl la)), (n2, .inl (cI, 200, .inl fi)), (n3, .inl (cI, 200, .inl si)), (n4, .inl (cI, 24, .inl no)), (nx, .inr (0, [.ref x1, .ref x2, .ref x3, .ref x4, .int xex, .int xch])), (x1, .inl (cI, 200, .inl xla)), (x2, .inl (cI, 200, .inl xfi)), (x3, .inl (cI, 200, .inl xsi)), (x4, .inl (cI, 24, .inl xno)), (pl, .inr (1, [.ref pb, .int u_2, .int wr, .int (-1)]))] H := hP
  have hD : va_D A [(d0, .inr (3, [.ref pl, .ref tp, .ref wi, .ref pg, .ref te, .ref nw, .ref nx])), (pb, .inl (cB, nb, .inl pf)), (tp, .inr (2, [.ref tb, .int ln])), (wi, .inl (cI, 24, .inl wf)), (nw, .inr (0, [.ref n1, .ref n2, .ref n3, .ref n4, .int ex, .int ch])), (n1, .inl (cI, 200, .inl la)), (n2, .inl (cI, 200, .inl fi)), (n3, .inl (cI, 200, .inl si)), (n4, .inl (cI, 24, .inl no)), (nx, .inr (0, [.ref x1, .ref x2, .ref x3, .ref x4, .int xex, .int xch])), (x1, .inl (cI, 200, .inl xla)), (x2, .inl (cI, 200, .inl xfi)), (x3, .inl (cI, 200, .inl xsi)), (x4, .inl (cI, 24, .inl xno)), (pl, .inr (1, [.ref pb, .int u_2, .int wr, .int (-1)]))] := hD
  subst e_3
  refine lv_aload_n hx hb d_D_recover_8 rfl (lv_at hl 0 rfl) ?_
  refine va_get (D := (dC, dI)) (ci := 3) (v := .ref tp) (C := R_D) (T := T_D) (N := 7) hx hb hts in_D hown hK hP 0 rfl rfl 1 (by decide) (hts _ ew_110) (fun _ h9 => h9) rfl d_D_recover_9 ?_
  refine lv_iconst (v := 0) hx hb d_D_recover_12 (by decide) ?_
  refine va_put (D := (dC, dI)) (ci := 2) (v := .int 0) (ty := .int) (C := R_Tp) (T := T_Tp) (N := 2) hx hb hts in_Tp t_Tp t_Tp_ok n_Tp hown hK hP hD hS 2 rfl rfl 1 (by decide) (hts _ ew_71) (fun _ h9 => h9) rfl (by decide +kernel) rfl rfl (Nat.le_of_ble_eq_true rfl) d_D_recover_13 (fun H locs hP hD hS => ?_)
  have hP : va_P (dC, dI) vwCl [(d0, .inr (3, [.ref pl, .ref tp, .ref wi, .ref pg, .ref te, .ref nw, .ref nx])), (pb, .inl (cB, nb, .inl pf)), (tp, .inr (2, [.ref tb, .int 0])), (wi, .inl (cI, 24, .inl wf)), (nw, .inr (0, [.ref n1, .ref n2, .ref n3, .ref n4, .int ex, .int ch])), (n1, .inl (cI, 200, .inl la)), (n2, .inl (cI, 200, .inl fi)), (n3, .inl (cI, 200, .inl si)), (n4, .inl (cI, 24, .inl no)), (nx, .inr (0, [.ref x1, .ref x2, .ref x3, .ref x4, .int xex, .int xch])), (x1, .inl (cI, 200, .inl xla)), (x2, .inl (cI, 200, .inl xfi)), (x3, .inl (cI, 200, .inl xsi)), (x4, .inl (cI, 24, .inl xno)), (pl, .inr (1, [.ref pb, .int (ep_down (-1)), .int wr, .int (-1)]))] H := hP
  have hD : va_D A [(d0, .inr (3, [.ref pl, .ref tp, .ref wi, .ref pg, .ref te, .ref nw, .ref nx])), (pb, .inl (cB, nb, .inl pf)), (tp, .inr (2, [.ref tb, .int 0])), (wi, .inl (cI, 24, .inl wf)), (nw, .inr (0, [.ref n1, .ref n2, .ref n3, .ref n4, .int ex, .int ch])), (n1, .inl (cI, 200, .inl la)), (n2, .inl (cI, 200, .inl fi)), (n3, .inl (cI, 200, .inl si)), (n4, .inl (cI, 24, .inl no)), (nx, .inr (0, [.ref x1, .ref x2, .ref x3, .ref x4, .int xex, .int xch])), (x1, .inl (cI, 200, .inl xla)), (x2, .inl (cI, 200, .inl xfi)), (x3, .inl (cI, 200, .inl xsi)), (x4, .inl (cI, 24, .inl xno)), (pl, .inr (1, [.ref pb, .int (ep_down (-1)), .int wr, .int (-1)]))] := hD
  refine lv_aload_n hx hb d_D_recover_16 rfl (lv_at hl 0 rfl) ?_
  refine va_get (D := (dC, dI)) (ci := 3) (v := .ref nw) (C := R_D) (T := T_D) (N := 7) hx hb hts in_D hown hK hP 0 rfl rfl 5 (by decide) (hts _ ew_114) (fun _ h9 => h9) rfl d_D_recover_17 ?_
  refine lv_aload_n hx hb d_D_recover_20 rfl (lv_at hl 0 rfl) ?_
  refine va_get (D := (dC, dI)) (ci := 3) (v := .ref pl) (C := R_D) (T := T_D) (N := 7) hx hb hts in_D hown hK hP 0 rfl rfl 0 (by decide) (hts _ ew_109) (fun _ h9 => h9) rfl d_D_recover_21 ?_
  refine lv_iconst (v := 0) hx hb d_D_recover_24 (by decide) ?_
  refine ey_Vv (Wc := [(nw, .inr (0, [.ref n1, .ref n2, .ref n3, .ref n4, .int ex, .int ch])), (n1, .inl (cI, 200, .inl la)), (n2, .inl (cI, 200, .inl fi)), (n3, .inl (cI, 200, .inl si)), (n4, .inl (cI, 24, .inl no)), (pl, .inr (1, [.ref pb, .int (ep_down (-1)), .int wr, .int (-1)])), (pb, .inl (cB, nb, .inl pf))]) (wr := [(d0, .inr (3, [.ref pl, .ref tp, .ref wi, .ref pg, .ref te, .ref nw, .ref nx])), (tp, .inr (2, [.ref tb, .int 0])), (wi, .inl (cI, 24, .inl wf)), (nx, .inr (0, [.ref x1, .ref x2, .ref x3, .ref x4, .int xex, .int xch])), (x1, .inl (cI, 200, .inl xla)), (x2, .inl (cI, 200, .inl xfi)), (x3, .inl (cI, 200, .inl xsi)), (x4, .inl (cI, 24, .inl xno))]) (As := [.ref pl, .int 0]) (rest := []) ⟨hx, hb, hml, hown, hts⟩ (c_mf_load l dC dI cI cB cJ cZ nw n1 n2 n3 n4 ex ch la fi si no pl pb (ep_down (-1)) wr (-1) nb pf 0 (by omega)) (cwV 2 hts (ew_V ew_139 ew_140 ew_141 ew_17 g_M_load) rfl rfl rfl (by decide +kernel) ⟨Nat.le_of_ble_eq_true rfl, Nat.le_of_ble_eq_true rfl⟩) hK hG hP hD hS hA [4, 5, 6, 7, 8, 14, 1] [0, 2, 3, 9, 10, 11, 12, 13] rfl rfl (by decide) (by decide) (by decide) (ci := 0) (q0 := 0) rfl rfl rfl hl.1 rfl (Nat.le_of_ble_eq_true rfl) d_D_recover_25 ⟨Nat.le_of_ble_eq_true rfl, Nat.le_of_ble_eq_true rfl⟩ (fun u_5 H locs e_6 hP hD hS => ?_)
  have hP : va_P (dC, dI) vwCl [(d0, .inr (3, [.ref pl, .ref tp, .ref wi, .ref pg, .ref te, .ref nw, .ref nx])), (tp, .inr (2, [.ref tb, .int 0])), (wi, .inl (cI, 24, .inl wf)), (nx, .inr (0, [.ref x1, .ref x2, .ref x3, .ref x4, .int xex, .int xch])), (x1, .inl (cI, 200, .inl xla)), (x2, .inl (cI, 200, .inl xfi)), (x3, .inl (cI, 200, .inl xsi)), (x4, .inl (cI, 24, .inl xno)), (nw, .inr (0, [.ref n1, .ref n2, .ref n3, .ref n4, .int u_5.1.2.2.2, .int u_5.2.2])), (n1, .inl (cI, 200, .inl u_5.1.1)), (n2, .inl (cI, 200, .inl u_5.1.2.1)), (n3, .inl (cI, 200, .inl u_5.1.2.2.1)), (n4, .inl (cI, 24, .inl u_5.2.1)), (pl, .inr (1, [.ref pb, .int (ep_down (-1)), .int wr, .int (-1)])), (pb, .inl (cB, nb, .inl pf))] H := hP
  have hD : va_D A [(d0, .inr (3, [.ref pl, .ref tp, .ref wi, .ref pg, .ref te, .ref nw, .ref nx])), (tp, .inr (2, [.ref tb, .int 0])), (wi, .inl (cI, 24, .inl wf)), (nx, .inr (0, [.ref x1, .ref x2, .ref x3, .ref x4, .int xex, .int xch])), (x1, .inl (cI, 200, .inl xla)), (x2, .inl (cI, 200, .inl xfi)), (x3, .inl (cI, 200, .inl xsi)), (x4, .inl (cI, 24, .inl xno)), (nw, .inr (0, [.ref n1, .ref n2, .ref n3, .ref n4, .int u_5.1.2.2.2, .int u_5.2.2])), (n1, .inl (cI, 200, .inl u_5.1.1)), (n2, .inl (cI, 200, .inl u_5.1.2.1)), (n3, .inl (cI, 200, .inl u_5.1.2.2.1)), (n4, .inl (cI, 24, .inl u_5.2.1)), (pl, .inr (1, [.ref pb, .int (ep_down (-1)), .int wr, .int (-1)])), (pb, .inl (cB, nb, .inl pf))] := hD
  subst e_6
  refine lv_aload_n hx hb d_D_recover_28 rfl (lv_at hl 0 rfl) ?_
  refine va_get (D := (dC, dI)) (ci := 3) (v := .ref nx) (C := R_D) (T := T_D) (N := 7) hx hb hts in_D hown hK hP 0 rfl rfl 6 (by decide) (hts _ ew_115) (fun _ h9 => h9) rfl d_D_recover_29 ?_
  refine lv_aload_n hx hb d_D_recover_32 rfl (lv_at hl 0 rfl) ?_
  refine va_get (D := (dC, dI)) (ci := 3) (v := .ref pl) (C := R_D) (T := T_D) (N := 7) hx hb hts in_D hown hK hP 0 rfl rfl 0 (by decide) (hts _ ew_109) (fun _ h9 => h9) rfl d_D_recover_33 ?_
  refine lv_iconst (v := 1) hx hb d_D_recover_36 (by decide) ?_
  refine ey_Vv (Wc := [(nx, .inr (0, [.ref x1, .ref x2, .ref x3, .ref x4, .int xex, .int xch])), (x1, .inl (cI, 200, .inl xla)), (x2, .inl (cI, 200, .inl xfi)), (x3, .inl (cI, 200, .inl xsi)), (x4, .inl (cI, 24, .inl xno)), (pl, .inr (1, [.ref pb, .int (ep_down (-1)), .int wr, .int (-1)])), (pb, .inl (cB, nb, .inl pf))]) (wr := [(d0, .inr (3, [.ref pl, .ref tp, .ref wi, .ref pg, .ref te, .ref nw, .ref nx])), (tp, .inr (2, [.ref tb, .int 0])), (wi, .inl (cI, 24, .inl wf)), (nw, .inr (0, [.ref n1, .ref n2, .ref n3, .ref n4, .int ((ep_load nb pf 0 ((la, fi, si, ex), no, ch)).1.2.2.2), .int ((ep_load nb pf 0 ((la, fi, si, ex), no, ch)).2.2)])), (n1, .inl (cI, 200, .inl ((ep_load nb pf 0 ((la, fi, si, ex), no, ch)).1.1))), (n2, .inl (cI, 200, .inl ((ep_load nb pf 0 ((la, fi, si, ex), no, ch)).1.2.1))), (n3, .inl (cI, 200, .inl ((ep_load nb pf 0 ((la, fi, si, ex), no, ch)).1.2.2.1))), (n4, .inl (cI, 24, .inl ((ep_load nb pf 0 ((la, fi, si, ex), no, ch)).2.1)))]) (As := [.ref pl, .int 1]) (rest := []) ⟨hx, hb, hml, hown, hts⟩ (c_mf_load l dC dI cI cB cJ cZ nx x1 x2 x3 x4 xex xch xla xfi xsi xno pl pb (ep_down (-1)) wr (-1) nb pf 1 (by omega)) (cwV 2 hts (ew_V ew_139 ew_140 ew_141 ew_17 g_M_load) rfl rfl rfl (by decide +kernel) ⟨Nat.le_of_ble_eq_true rfl, Nat.le_of_ble_eq_true rfl⟩) hK hG hP hD hS hA [3, 4, 5, 6, 7, 13, 14] [0, 1, 2, 8, 9, 10, 11, 12] rfl rfl (by decide) (by decide) (by decide) (ci := 0) (q0 := 0) rfl rfl rfl hl.1 rfl (Nat.le_of_ble_eq_true rfl) d_D_recover_37 ⟨Nat.le_of_ble_eq_true rfl, Nat.le_of_ble_eq_true rfl⟩ (fun u_8 H locs e_9 hP hD hS => ?_)
  have hP : va_P (dC, dI) vwCl [(d0, .inr (3, [.ref pl, .ref tp, .ref wi, .ref pg, .ref te, .ref nw, .ref nx])), (tp, .inr (2, [.ref tb, .int 0])), (wi, .inl (cI, 24, .inl wf)), (nw, .inr (0, [.ref n1, .ref n2, .ref n3, .ref n4, .int ((ep_load nb pf 0 ((la, fi, si, ex), no, ch)).1.2.2.2), .int ((ep_load nb pf 0 ((la, fi, si, ex), no, ch)).2.2)])), (n1, .inl (cI, 200, .inl ((ep_load nb pf 0 ((la, fi, si, ex), no, ch)).1.1))), (n2, .inl (cI, 200, .inl ((ep_load nb pf 0 ((la, fi, si, ex), no, ch)).1.2.1))), (n3, .inl (cI, 200, .inl ((ep_load nb pf 0 ((la, fi, si, ex), no, ch)).1.2.2.1))), (n4, .inl (cI, 24, .inl ((ep_load nb pf 0 ((la, fi, si, ex), no, ch)).2.1))), (nx, .inr (0, [.ref x1, .ref x2, .ref x3, .ref x4, .int u_8.1.2.2.2, .int u_8.2.2])), (x1, .inl (cI, 200, .inl u_8.1.1)), (x2, .inl (cI, 200, .inl u_8.1.2.1)), (x3, .inl (cI, 200, .inl u_8.1.2.2.1)), (x4, .inl (cI, 24, .inl u_8.2.1)), (pl, .inr (1, [.ref pb, .int (ep_down (-1)), .int wr, .int (-1)])), (pb, .inl (cB, nb, .inl pf))] H := hP
  have hD : va_D A [(d0, .inr (3, [.ref pl, .ref tp, .ref wi, .ref pg, .ref te, .ref nw, .ref nx])), (tp, .inr (2, [.ref tb, .int 0])), (wi, .inl (cI, 24, .inl wf)), (nw, .inr (0, [.ref n1, .ref n2, .ref n3, .ref n4, .int ((ep_load nb pf 0 ((la, fi, si, ex), no, ch)).1.2.2.2), .int ((ep_load nb pf 0 ((la, fi, si, ex), no, ch)).2.2)])), (n1, .inl (cI, 200, .inl ((ep_load nb pf 0 ((la, fi, si, ex), no, ch)).1.1))), (n2, .inl (cI, 200, .inl ((ep_load nb pf 0 ((la, fi, si, ex), no, ch)).1.2.1))), (n3, .inl (cI, 200, .inl ((ep_load nb pf 0 ((la, fi, si, ex), no, ch)).1.2.2.1))), (n4, .inl (cI, 24, .inl ((ep_load nb pf 0 ((la, fi, si, ex), no, ch)).2.1))), (nx, .inr (0, [.ref x1, .ref x2, .ref x3, .ref x4, .int u_8.1.2.2.2, .int u_8.2.2])), (x1, .inl (cI, 200, .inl u_8.1.1)), (x2, .inl (cI, 200, .inl u_8.1.2.1)), (x3, .inl (cI, 200, .inl u_8.1.2.2.1)), (x4, .inl (cI, 24, .inl u_8.2.1)), (pl, .inr (1, [.ref pb, .int (ep_down (-1)), .int wr, .int (-1)])), (pb, .inl (cB, nb, .inl pf))] := hD
  subst e_9
  refine lv_aload_n hx hb d_D_recover_40 rfl (lv_at hl 0 rfl) ?_
  refine va_get (D := (dC, dI)) (ci := 3) (v := .ref nx) (C := R_D) (T := T_D) (N := 7) hx hb hts in_D hown hK hP 0 rfl rfl 6 (by decide) (hts _ ew_115) (fun _ h9 => h9) rfl d_D_recover_41 ?_
  refine va_get (D := (dC, dI)) (ci := 0) (v := .int ((ep_load nb pf 1 ((xla, xfi, xsi, xex), xno, xch)).2.2)) (C := R_M) (T := T_M) (N := 6) hx hb hts in_M hown hK hP 8 rfl rfl 5 (by decide) (hts _ ew_94) (fun _ h9 => h9) rfl d_D_recover_44 ?_
  refine lv_aload_n hx hb d_D_recover_47 rfl (lv_at hl 0 rfl) ?_
  refine va_get (D := (dC, dI)) (ci := 3) (v := .ref nw) (C := R_D) (T := T_D) (N := 7) hx hb hts in_D hown hK hP 0 rfl rfl 5 (by decide) (hts _ ew_114) (fun _ h9 => h9) rfl d_D_recover_48 ?_
  refine va_get (D := (dC, dI)) (ci := 0) (v := .int ((ep_load nb pf 0 ((la, fi, si, ex), no, ch)).2.2)) (C := R_M) (T := T_M) (N := 6) hx hb hts in_M hown hK hP 3 rfl rfl 5 (by decide) (hts _ ew_94) (fun _ h9 => h9) rfl d_D_recover_51 ?_
  refine lv_icmp_le (tgt := 61) hx hb d_D_recover_54 (by decide) (fun c_54 => ?_) (fun c_54 => ?_)
  · refine lv_aload_n hx hb d_D_recover_61 rfl (lv_at hl 0 rfl) ?_
    refine va_get (D := (dC, dI)) (ci := 3) (v := .ref nw) (C := R_D) (T := T_D) (N := 7) hx hb hts in_D hown hK hP 0 rfl rfl 5 (by decide) (hts _ ew_114) (fun _ h9 => h9) rfl d_D_recover_62 ?_
    refine va_get (D := (dC, dI)) (ci := 0) (v := .ref n4) (C := R_M) (T := T_M) (N := 6) hx hb hts in_M hown hK hP 3 rfl rfl 3 (by decide) (hts _ ew_90) (fun _ h9 => h9) rfl d_D_recover_65 ?_
    refine lv_iconst (v := 0) hx hb d_D_recover_68 (by decide) ?_
    refine lv_aload_n hx hb d_D_recover_69 rfl (lv_at hl 0 rfl) ?_
    refine va_get (D := (dC, dI)) (ci := 3) (v := .ref wi) (C := R_D) (T := T_D) (N := 7) hx hb hts in_D hown hK hP 0 rfl rfl 2 (by decide) (hts _ ew_111) (fun _ h9 => h9) rfl d_D_recover_70 ?_
    refine lv_iconst (v := 0) hx hb d_D_recover_73 (by decide) ?_
    refine lv_bipush (v := 24) hx hb d_D_recover_74 (by decide) ?_
    refine va_copyi hx hb (by rw [hml]; exact hl.1.symm) hown (hts _ ew_167) (hts _ ew_169) (hts _ ew_168) (hts _ ew_25) hK hP hD hS 7 2 0 0 rfl rfl rfl rfl rfl (by decide) (by decide) (by decide) (by decide) (by decide) (fun i _ => rfl) (Nat.le_of_ble_eq_true rfl) (Nat.le_of_ble_eq_true rfl) d_D_recover_76 (fun H locs hP hD hS => ?_)
    have hP : va_P (dC, dI) vwCl [(d0, .inr (3, [.ref pl, .ref tp, .ref wi, .ref pg, .ref te, .ref nw, .ref nx])), (tp, .inr (2, [.ref tb, .int 0])), (wi, .inl (cI, 24, .inl (va_cpy ((ep_load nb pf 0 ((la, fi, si, ex), no, ch)).2.1) wf (0 : Int32).toNatClampNeg (0 : Int32).toNatClampNeg (24 : Int32).toNatClampNeg))), (nw, .inr (0, [.ref n1, .ref n2, .ref n3, .ref n4, .int ((ep_load nb pf 0 ((la, fi, si, ex), no, ch)).1.2.2.2), .int ((ep_load nb pf 0 ((la, fi, si, ex), no, ch)).2.2)])), (n1, .inl (cI, 200, .inl ((ep_load nb pf 0 ((la, fi, si, ex), no, ch)).1.1))), (n2, .inl (cI, 200, .inl ((ep_load nb pf 0 ((la, fi, si, ex), no, ch)).1.2.1))), (n3, .inl (cI, 200, .inl ((ep_load nb pf 0 ((la, fi, si, ex), no, ch)).1.2.2.1))), (n4, .inl (cI, 24, .inl ((ep_load nb pf 0 ((la, fi, si, ex), no, ch)).2.1))), (nx, .inr (0, [.ref x1, .ref x2, .ref x3, .ref x4, .int ((ep_load nb pf 1 ((xla, xfi, xsi, xex), xno, xch)).1.2.2.2), .int ((ep_load nb pf 1 ((xla, xfi, xsi, xex), xno, xch)).2.2)])), (x1, .inl (cI, 200, .inl ((ep_load nb pf 1 ((xla, xfi, xsi, xex), xno, xch)).1.1))), (x2, .inl (cI, 200, .inl ((ep_load nb pf 1 ((xla, xfi, xsi, xex), xno, xch)).1.2.1))), (x3, .inl (cI, 200, .inl ((ep_load nb pf 1 ((xla, xfi, xsi, xex), xno, xch)).1.2.2.1))), (x4, .inl (cI, 24, .inl ((ep_load nb pf 1 ((xla, xfi, xsi, xex), xno, xch)).2.1))), (pl, .inr (1, [.ref pb, .int (ep_down (-1)), .int wr, .int (-1)])), (pb, .inl (cB, nb, .inl pf))] H := hP
    have hD : va_D A [(d0, .inr (3, [.ref pl, .ref tp, .ref wi, .ref pg, .ref te, .ref nw, .ref nx])), (tp, .inr (2, [.ref tb, .int 0])), (wi, .inl (cI, 24, .inl (va_cpy ((ep_load nb pf 0 ((la, fi, si, ex), no, ch)).2.1) wf (0 : Int32).toNatClampNeg (0 : Int32).toNatClampNeg (24 : Int32).toNatClampNeg))), (nw, .inr (0, [.ref n1, .ref n2, .ref n3, .ref n4, .int ((ep_load nb pf 0 ((la, fi, si, ex), no, ch)).1.2.2.2), .int ((ep_load nb pf 0 ((la, fi, si, ex), no, ch)).2.2)])), (n1, .inl (cI, 200, .inl ((ep_load nb pf 0 ((la, fi, si, ex), no, ch)).1.1))), (n2, .inl (cI, 200, .inl ((ep_load nb pf 0 ((la, fi, si, ex), no, ch)).1.2.1))), (n3, .inl (cI, 200, .inl ((ep_load nb pf 0 ((la, fi, si, ex), no, ch)).1.2.2.1))), (n4, .inl (cI, 24, .inl ((ep_load nb pf 0 ((la, fi, si, ex), no, ch)).2.1))), (nx, .inr (0, [.ref x1, .ref x2, .ref x3, .ref x4, .int ((ep_load nb pf 1 ((xla, xfi, xsi, xex), xno, xch)).1.2.2.2), .int ((ep_load nb pf 1 ((xla, xfi, xsi, xex), xno, xch)).2.2)])), (x1, .inl (cI, 200, .inl ((ep_load nb pf 1 ((xla, xfi, xsi, xex), xno, xch)).1.1))), (x2, .inl (cI, 200, .inl ((ep_load nb pf 1 ((xla, xfi, xsi, xex), xno, xch)).1.2.1))), (x3, .inl (cI, 200, .inl ((ep_load nb pf 1 ((xla, xfi, xsi, xex), xno, xch)).1.2.2.1))), (x4, .inl (cI, 24, .inl ((ep_load nb pf 1 ((xla, xfi, xsi, xex), xno, xch)).2.1))), (pl, .inr (1, [.ref pb, .int (ep_down (-1)), .int wr, .int (-1)])), (pb, .inl (cB, nb, .inl pf))] := hD
    refine lv_aload_n hx hb d_D_recover_79 rfl (lv_at hl 0 rfl) ?_
    refine va_get (D := (dC, dI)) (ci := 3) (v := .ref nw) (C := R_D) (T := T_D) (N := 7) hx hb hts in_D hown hK hP 0 rfl rfl 5 (by decide) (hts _ ew_114) (fun _ h9 => h9) rfl d_D_recover_80 ?_
    refine va_get (D := (dC, dI)) (ci := 0) (v := .int ((ep_load nb pf 0 ((la, fi, si, ex), no, ch)).1.2.2.2)) (C := R_M) (T := T_M) (N := 6) hx hb hts in_M hown hK hP 3 rfl rfl 4 (by decide) (hts _ ew_92) (fun _ h9 => h9) rfl d_D_recover_83 ?_
    exact ey_iret (W1 := fun (u : (Nat × Nat) × ep_M × ep_M × ep_F) => [(d0, .inr (3, [.ref pl, .ref tp, .ref wi, .ref pg, .ref te, .ref u.1.1, .ref u.1.2])), (pl, .inr (1, [.ref pb, .int (ep_down (-1)), .int wr, .int (-1)])), (pb, .inl (cB, nb, .inl pf)), (tp, .inr (2, [.ref tb, .int 0])), (wi, .inl (cI, 24, .inl u.2.2.2)), (nw, .inr (0, [.ref n1, .ref n2, .ref n3, .ref n4, .int u.2.1.1.2.2.2, .int u.2.1.2.2])), (n1, .inl (cI, 200, .inl u.2.1.1.1)), (n2, .inl (cI, 200, .inl u.2.1.1.2.1)), (n3, .inl (cI, 200, .inl u.2.1.1.2.2.1)), (n4, .inl (cI, 24, .inl u.2.1.2.1)), (nx, .inr (0, [.ref x1, .ref x2, .ref x3, .ref x4, .int u.2.2.1.1.2.2.2, .int u.2.2.1.2.2])), (x1, .inl (cI, 200, .inl u.2.2.1.1.1)), (x2, .inl (cI, 200, .inl u.2.2.1.1.2.1)), (x3, .inl (cI, 200, .inl u.2.2.1.1.2.2.1)), (x4, .inl (cI, 24, .inl u.2.2.1.2.1))]) hx hb hr hlocks hP hD hS ((nw, nx), (ep_load nb pf 0 ((la, fi, si, ex), no, ch)), (ep_load nb pf 1 ((xla, xfi, xsi, xex), xno, xch)), va_cpy ((ep_load nb pf 0 ((la, fi, si, ex), no, ch)).2.1) wf (0 : Int32).toNatClampNeg (0 : Int32).toNatClampNeg (24 : Int32).toNatClampNeg) [0, 13, 14, 1, 2, 3, 4, 5, 6, 7, 8, 9, 10, 11, 12] rfl (by decide) (by simp only [ep_recover, ep_cpN, ↓reduceIte, c_54]) d_D_recover_86 (Nat.le_of_ble_eq_true rfl) (Nat.le_of_ble_eq_true rfl)
  · refine lv_aload_n hx hb d_D_recover_57 rfl (lv_at hl 0 rfl) ?_
    refine ey_Vv (Wc := [(d0, .inr (3, [.ref pl, .ref tp, .ref wi, .ref pg, .ref te, .ref nw, .ref nx]))]) (wr := [(tp, .inr (2, [.ref tb, .int 0])), (wi, .inl (cI, 24, .inl wf)), (nw, .inr (0, [.ref n1, .ref n2, .ref n3, .ref n4, .int ((ep_load nb pf 0 ((la, fi, si, ex), no, ch)).1.2.2.2), .int ((ep_load nb pf 0 ((la, fi, si, ex), no, ch)).2.2)])), (n1, .inl (cI, 200, .inl ((ep_load nb pf 0 ((la, fi, si, ex), no, ch)).1.1))), (n2, .inl (cI, 200, .inl ((ep_load nb pf 0 ((la, fi, si, ex), no, ch)).1.2.1))), (n3, .inl (cI, 200, .inl ((ep_load nb pf 0 ((la, fi, si, ex), no, ch)).1.2.2.1))), (n4, .inl (cI, 24, .inl ((ep_load nb pf 0 ((la, fi, si, ex), no, ch)).2.1))), (nx, .inr (0, [.ref x1, .ref x2, .ref x3, .ref x4, .int ((ep_load nb pf 1 ((xla, xfi, xsi, xex), xno, xch)).1.2.2.2), .int ((ep_load nb pf 1 ((xla, xfi, xsi, xex), xno, xch)).2.2)])), (x1, .inl (cI, 200, .inl ((ep_load nb pf 1 ((xla, xfi, xsi, xex), xno, xch)).1.1))), (x2, .inl (cI, 200, .inl ((ep_load nb pf 1 ((xla, xfi, xsi, xex), xno, xch)).1.2.1))), (x3, .inl (cI, 200, .inl ((ep_load nb pf 1 ((xla, xfi, xsi, xex), xno, xch)).1.2.2.1))), (x4, .inl (cI, 24, .inl ((ep_load nb pf 1 ((xla, xfi, xsi, xex), xno, xch)).2.1))), (pl, .inr (1, [.ref pb, .int (ep_down (-1)), .int wr, .int (-1)])), (pb, .inl (cB, nb, .inl pf))]) (As := []) (rest := []) ⟨hx, hb, hml, hown, hts⟩ (c_ed_swap l dC dI cI cB cJ cZ d0 pl tp wi pg te nw nx) (cwV 0 hts (ew_V ew_163 ew_165 ew_0 ew_13 g_D_makeNextCount) rfl rfl rfl (by decide +kernel) ⟨Nat.le_of_ble_eq_true rfl, Nat.le_of_ble_eq_true rfl⟩) hK hG hP hD hS hA [0] [1, 2, 3, 4, 5, 6, 7, 8, 9, 10, 11, 12, 13, 14] rfl rfl (by decide) (by decide) (by decide) (ci := 3) (q0 := 0) rfl rfl rfl hl.1 rfl (Nat.le_of_ble_eq_true rfl) d_D_recover_58 ⟨Nat.le_of_ble_eq_true rfl, Nat.le_of_ble_eq_true rfl⟩ (fun u_11 H locs e_12 hP hD hS => ?_)
    have hP : va_P (dC, dI) vwCl [(tp, .inr (2, [.ref tb, .int 0])), (wi, .inl (cI, 24, .inl wf)), (nw, .inr (0, [.ref n1, .ref n2, .ref n3, .ref n4, .int ((ep_load nb pf 0 ((la, fi, si, ex), no, ch)).1.2.2.2), .int ((ep_load nb pf 0 ((la, fi, si, ex), no, ch)).2.2)])), (n1, .inl (cI, 200, .inl ((ep_load nb pf 0 ((la, fi, si, ex), no, ch)).1.1))), (n2, .inl (cI, 200, .inl ((ep_load nb pf 0 ((la, fi, si, ex), no, ch)).1.2.1))), (n3, .inl (cI, 200, .inl ((ep_load nb pf 0 ((la, fi, si, ex), no, ch)).1.2.2.1))), (n4, .inl (cI, 24, .inl ((ep_load nb pf 0 ((la, fi, si, ex), no, ch)).2.1))), (nx, .inr (0, [.ref x1, .ref x2, .ref x3, .ref x4, .int ((ep_load nb pf 1 ((xla, xfi, xsi, xex), xno, xch)).1.2.2.2), .int ((ep_load nb pf 1 ((xla, xfi, xsi, xex), xno, xch)).2.2)])), (x1, .inl (cI, 200, .inl ((ep_load nb pf 1 ((xla, xfi, xsi, xex), xno, xch)).1.1))), (x2, .inl (cI, 200, .inl ((ep_load nb pf 1 ((xla, xfi, xsi, xex), xno, xch)).1.2.1))), (x3, .inl (cI, 200, .inl ((ep_load nb pf 1 ((xla, xfi, xsi, xex), xno, xch)).1.2.2.1))), (x4, .inl (cI, 24, .inl ((ep_load nb pf 1 ((xla, xfi, xsi, xex), xno, xch)).2.1))), (pl, .inr (1, [.ref pb, .int (ep_down (-1)), .int wr, .int (-1)])), (pb, .inl (cB, nb, .inl pf)), (d0, .inr (3, [.ref pl, .ref tp, .ref wi, .ref pg, .ref te, .ref nx, .ref nw]))] H := hP
    have hD : va_D A [(tp, .inr (2, [.ref tb, .int 0])), (wi, .inl (cI, 24, .inl wf)), (nw, .inr (0, [.ref n1, .ref n2, .ref n3, .ref n4, .int ((ep_load nb pf 0 ((la, fi, si, ex), no, ch)).1.2.2.2), .int ((ep_load nb pf 0 ((la, fi, si, ex), no, ch)).2.2)])), (n1, .inl (cI, 200, .inl ((ep_load nb pf 0 ((la, fi, si, ex), no, ch)).1.1))), (n2, .inl (cI, 200, .inl ((ep_load nb pf 0 ((la, fi, si, ex), no, ch)).1.2.1))), (n3, .inl (cI, 200, .inl ((ep_load nb pf 0 ((la, fi, si, ex), no, ch)).1.2.2.1))), (n4, .inl (cI, 24, .inl ((ep_load nb pf 0 ((la, fi, si, ex), no, ch)).2.1))), (nx, .inr (0, [.ref x1, .ref x2, .ref x3, .ref x4, .int ((ep_load nb pf 1 ((xla, xfi, xsi, xex), xno, xch)).1.2.2.2), .int ((ep_load nb pf 1 ((xla, xfi, xsi, xex), xno, xch)).2.2)])), (x1, .inl (cI, 200, .inl ((ep_load nb pf 1 ((xla, xfi, xsi, xex), xno, xch)).1.1))), (x2, .inl (cI, 200, .inl ((ep_load nb pf 1 ((xla, xfi, xsi, xex), xno, xch)).1.2.1))), (x3, .inl (cI, 200, .inl ((ep_load nb pf 1 ((xla, xfi, xsi, xex), xno, xch)).1.2.2.1))), (x4, .inl (cI, 24, .inl ((ep_load nb pf 1 ((xla, xfi, xsi, xex), xno, xch)).2.1))), (pl, .inr (1, [.ref pb, .int (ep_down (-1)), .int wr, .int (-1)])), (pb, .inl (cB, nb, .inl pf)), (d0, .inr (3, [.ref pl, .ref tp, .ref wi, .ref pg, .ref te, .ref nx, .ref nw]))] := hD
    refine lv_aload_n hx hb d_D_recover_61 rfl (lv_at hl 0 rfl) ?_
    refine va_get (D := (dC, dI)) (ci := 3) (v := .ref nx) (C := R_D) (T := T_D) (N := 7) hx hb hts in_D hown hK hP 14 rfl rfl 5 (by decide) (hts _ ew_114) (fun _ h9 => h9) rfl d_D_recover_62 ?_
    refine va_get (D := (dC, dI)) (ci := 0) (v := .ref x4) (C := R_M) (T := T_M) (N := 6) hx hb hts in_M hown hK hP 7 rfl rfl 3 (by decide) (hts _ ew_90) (fun _ h9 => h9) rfl d_D_recover_65 ?_
    refine lv_iconst (v := 0) hx hb d_D_recover_68 (by decide) ?_
    refine lv_aload_n hx hb d_D_recover_69 rfl (lv_at hl 0 rfl) ?_
    refine va_get (D := (dC, dI)) (ci := 3) (v := .ref wi) (C := R_D) (T := T_D) (N := 7) hx hb hts in_D hown hK hP 14 rfl rfl 2 (by decide) (hts _ ew_111) (fun _ h9 => h9) rfl d_D_recover_70 ?_
    refine lv_iconst (v := 0) hx hb d_D_recover_73 (by decide) ?_
    refine lv_bipush (v := 24) hx hb d_D_recover_74 (by decide) ?_
    refine va_copyi hx hb (by rw [hml]; exact hl.1.symm) hown (hts _ ew_167) (hts _ ew_169) (hts _ ew_168) (hts _ ew_25) hK hP hD hS 11 1 0 0 rfl rfl rfl rfl rfl (by decide) (by decide) (by decide) (by decide) (by decide) (fun i _ => rfl) (Nat.le_of_ble_eq_true rfl) (Nat.le_of_ble_eq_true rfl) d_D_recover_76 (fun H locs hP hD hS => ?_)
    have hP : va_P (dC, dI) vwCl [(tp, .inr (2, [.ref tb, .int 0])), (wi, .inl (cI, 24, .inl (va_cpy ((ep_load nb pf 1 ((xla, xfi, xsi, xex), xno, xch)).2.1) wf (0 : Int32).toNatClampNeg (0 : Int32).toNatClampNeg (24 : Int32).toNatClampNeg))), (nw, .inr (0, [.ref n1, .ref n2, .ref n3, .ref n4, .int ((ep_load nb pf 0 ((la, fi, si, ex), no, ch)).1.2.2.2), .int ((ep_load nb pf 0 ((la, fi, si, ex), no, ch)).2.2)])), (n1, .inl (cI, 200, .inl ((ep_load nb pf 0 ((la, fi, si, ex), no, ch)).1.1))), (n2, .inl (cI, 200, .inl ((ep_load nb pf 0 ((la, fi, si, ex), no, ch)).1.2.1))), (n3, .inl (cI, 200, .inl ((ep_load nb pf 0 ((la, fi, si, ex), no, ch)).1.2.2.1))), (n4, .inl (cI, 24, .inl ((ep_load nb pf 0 ((la, fi, si, ex), no, ch)).2.1))), (nx, .inr (0, [.ref x1, .ref x2, .ref x3, .ref x4, .int ((ep_load nb pf 1 ((xla, xfi, xsi, xex), xno, xch)).1.2.2.2), .int ((ep_load nb pf 1 ((xla, xfi, xsi, xex), xno, xch)).2.2)])), (x1, .inl (cI, 200, .inl ((ep_load nb pf 1 ((xla, xfi, xsi, xex), xno, xch)).1.1))), (x2, .inl (cI, 200, .inl ((ep_load nb pf 1 ((xla, xfi, xsi, xex), xno, xch)).1.2.1))), (x3, .inl (cI, 200, .inl ((ep_load nb pf 1 ((xla, xfi, xsi, xex), xno, xch)).1.2.2.1))), (x4, .inl (cI, 24, .inl ((ep_load nb pf 1 ((xla, xfi, xsi, xex), xno, xch)).2.1))), (pl, .inr (1, [.ref pb, .int (ep_down (-1)), .int wr, .int (-1)])), (pb, .inl (cB, nb, .inl pf)), (d0, .inr (3, [.ref pl, .ref tp, .ref wi, .ref pg, .ref te, .ref nx, .ref nw]))] H := hP
    have hD : va_D A [(tp, .inr (2, [.ref tb, .int 0])), (wi, .inl (cI, 24, .inl (va_cpy ((ep_load nb pf 1 ((xla, xfi, xsi, xex), xno, xch)).2.1) wf (0 : Int32).toNatClampNeg (0 : Int32).toNatClampNeg (24 : Int32).toNatClampNeg))), (nw, .inr (0, [.ref n1, .ref n2, .ref n3, .ref n4, .int ((ep_load nb pf 0 ((la, fi, si, ex), no, ch)).1.2.2.2), .int ((ep_load nb pf 0 ((la, fi, si, ex), no, ch)).2.2)])), (n1, .inl (cI, 200, .inl ((ep_load nb pf 0 ((la, fi, si, ex), no, ch)).1.1))), (n2, .inl (cI, 200, .inl ((ep_load nb pf 0 ((la, fi, si, ex), no, ch)).1.2.1))), (n3, .inl (cI, 200, .inl ((ep_load nb pf 0 ((la, fi, si, ex), no, ch)).1.2.2.1))), (n4, .inl (cI, 24, .inl ((ep_load nb pf 0 ((la, fi, si, ex), no, ch)).2.1))), (nx, .inr (0, [.ref x1, .ref x2, .ref x3, .ref x4, .int ((ep_load nb pf 1 ((xla, xfi, xsi, xex), xno, xch)).1.2.2.2), .int ((ep_load nb pf 1 ((xla, xfi, xsi, xex), xno, xch)).2.2)])), (x1, .inl (cI, 200, .inl ((ep_load nb pf 1 ((xla, xfi, xsi, xex), xno, xch)).1.1))), (x2, .inl (cI, 200, .inl ((ep_load nb pf 1 ((xla, xfi, xsi, xex), xno, xch)).1.2.1))), (x3, .inl (cI, 200, .inl ((ep_load nb pf 1 ((xla, xfi, xsi, xex), xno, xch)).1.2.2.1))), (x4, .inl (cI, 24, .inl ((ep_load nb pf 1 ((xla, xfi, xsi, xex), xno, xch)).2.1))), (pl, .inr (1, [.ref pb, .int (ep_down (-1)), .int wr, .int (-1)])), (pb, .inl (cB, nb, .inl pf)), (d0, .inr (3, [.ref pl, .ref tp, .ref wi, .ref pg, .ref te, .ref nx, .ref nw]))] := hD
    refine lv_aload_n hx hb d_D_recover_79 rfl (lv_at hl 0 rfl) ?_
    refine va_get (D := (dC, dI)) (ci := 3) (v := .ref nx) (C := R_D) (T := T_D) (N := 7) hx hb hts in_D hown hK hP 14 rfl rfl 5 (by decide) (hts _ ew_114) (fun _ h9 => h9) rfl d_D_recover_80 ?_
    refine va_get (D := (dC, dI)) (ci := 0) (v := .int ((ep_load nb pf 1 ((xla, xfi, xsi, xex), xno, xch)).1.2.2.2)) (C := R_M) (T := T_M) (N := 6) hx hb hts in_M hown hK hP 7 rfl rfl 4 (by decide) (hts _ ew_92) (fun _ h9 => h9) rfl d_D_recover_83 ?_
    exact ey_iret (W1 := fun (u : (Nat × Nat) × ep_M × ep_M × ep_F) => [(d0, .inr (3, [.ref pl, .ref tp, .ref wi, .ref pg, .ref te, .ref u.1.1, .ref u.1.2])), (pl, .inr (1, [.ref pb, .int (ep_down (-1)), .int wr, .int (-1)])), (pb, .inl (cB, nb, .inl pf)), (tp, .inr (2, [.ref tb, .int 0])), (wi, .inl (cI, 24, .inl u.2.2.2)), (nw, .inr (0, [.ref n1, .ref n2, .ref n3, .ref n4, .int u.2.1.1.2.2.2, .int u.2.1.2.2])), (n1, .inl (cI, 200, .inl u.2.1.1.1)), (n2, .inl (cI, 200, .inl u.2.1.1.2.1)), (n3, .inl (cI, 200, .inl u.2.1.1.2.2.1)), (n4, .inl (cI, 24, .inl u.2.1.2.1)), (nx, .inr (0, [.ref x1, .ref x2, .ref x3, .ref x4, .int u.2.2.1.1.2.2.2, .int u.2.2.1.2.2])), (x1, .inl (cI, 200, .inl u.2.2.1.1.1)), (x2, .inl (cI, 200, .inl u.2.2.1.1.2.1)), (x3, .inl (cI, 200, .inl u.2.2.1.1.2.2.1)), (x4, .inl (cI, 24, .inl u.2.2.1.2.1))]) hx hb hr hlocks hP hD hS ((nx, nw), (ep_load nb pf 0 ((la, fi, si, ex), no, ch)), (ep_load nb pf 1 ((xla, xfi, xsi, xex), xno, xch)), va_cpy ((ep_load nb pf 1 ((xla, xfi, xsi, xex), xno, xch)).2.1) wf (0 : Int32).toNatClampNeg (0 : Int32).toNatClampNeg (24 : Int32).toNatClampNeg) [14, 12, 13, 0, 1, 2, 3, 4, 5, 6, 7, 8, 9, 10, 11] rfl (by decide) (by simp only [ep_recover, ep_cpN, ↓reduceIte, c_54]) d_D_recover_86 (Nat.le_of_ble_eq_true rfl) (Nat.le_of_ble_eq_true rfl)
end
section
set_option maxHeartbeats 4000000 in
set_option maxRecDepth 100000 in
theorem c_ed_change (l : Launch) (dC : Nat → ClassId) (dI : Nat → Nat → Nat) (cI cB cJ cZ : ClassId) (hl9 : l.stackTraces = false) (d0 pl tp wi pg te nw nx : Nat) (pb : Nat) (dn wr pw : Int32) (nb : Nat) (pf : ep_F) (tb : Nat) (ln : Int32) (nt : Nat) (tf wf pf2 : ep_F) (n : Nat) (t0 : ep_F) (n1 n2 n3 n4 : Nat) (ex ch : Int32) (la fi si no : ep_F) (x1 x2 x3 x4 : Nat) (xex xch : Int32) (xla xfi xsi xno : ep_F) (lab fr to : Int32) (hnb : nb < 2 ^ 30) (hnt : nt < 2 ^ 30) (hnb4 : 4096 ≤ nb) (hnt4 : 4096 ≤ nt) (htf : sb_Fit tf) (hpf : sb_Fit pf2) (hrow : ∃ k : Nat, k ≤ 128 ∧ ep_blocks ln = nI k) (hn : n < 2 ^ 30) (hn2 : 2 ≤ n) : ey_Xi l y_D_change w_D_change { frames := 7, cells := 1, slots := 6, locals := 120 } (dC, dI) vwCl (ey_kt cI cB cJ cZ) [.ref d0, .int lab, .int fr, .int to] [(d0, .inr (3, [.ref pl, .ref tp, .ref wi, .ref pg, .ref te, .ref nw, .ref nx])), (pl, .inr (1, [.ref pb, .int dn, .int wr, .int pw])), (pb, .inl (cB, nb, .inl pf)), (tp, .inr (2, [.ref tb, .int ln])), (tb, .inl (cB, nt, .inl tf)), (wi, .inl (cI, 24, .inl wf)), (pg, .inl (cB, 4096, .inl pf2)), (te, .inl (cI, n, .inl t0)), (nw, .inr (0, [.ref n1, .ref n2, .ref n3, .ref n4, .int ex, .int ch])), (n1, .inl (cI, 200, .inl la)), (n2, .inl (cI, 200, .inl fi)), (n3, .inl (cI, 200, .inl si)), (n4, .inl (cI, 24, .inl no)), (nx, .inr (0, [.ref x1, .ref x2, .ref x3, .ref x4, .int xex, .int xch])), (x1, .inl (cI, 200, .inl xla)), (x2, .inl (cI, 200, .inl xfi)), (x3, .inl (cI, 200, .inl xsi)), (x4, .inl (cI, 24, .inl xno))] (fun (r : Int32) (u : ((Nat × Nat) × ep_P × Int32 × ep_F × ep_F × Int32 × Int32 × ep_F) × ep_F × ep_M) => ep_kdown dn = 0 ∧ ((r, u.1), u.2) = ep_chg nw nx nb nt n (pf, dn, wr, pw) tf ln wf pf2 t0 ((la, fi, si, ex), no, ch) (ep_next ((la, fi, si, ex), no, ch) fr to wf ((xla, xfi, xsi, xex), xno, xch)) lab) (fun (u : ((Nat × Nat) × ep_P × Int32 × ep_F × ep_F × Int32 × Int32 × ep_F) × ep_F × ep_M) => [(d0, .inr (3, [.ref pl, .ref tp, .ref wi, .ref pg, .ref te, .ref u.1.1.1, .ref u.1.1.2])), (pl, .inr (1, [.ref pb, .int u.1.2.1.2.1, .int u.1.2.1.2.2.1, .int u.1.2.1.2.2.2])), (pb, .inl (cB, nb, .inl u.1.2.1.1)), (tp, .inr (2, [.ref tb, .int u.1.2.2.1])), (tb, .inl (cB, nt, .inl tf)), (wi, .inl (cI, 24, .inl u.1.2.2.2.1)), (pg, .inl (cB, 4096, .inl u.1.2.2.2.2.1)), (te, .inl (cI, n, .inl u.2.1)), (nw, .inr (0, [.ref n1, .ref n2, .ref n3, .ref n4, .int u.1.2.2.2.2.2.1, .int u.1.2.2.2.2.2.2.1])), (n1, .inl (cI, 200, .inl la)), (n2, .inl (cI, 200, .inl fi)), (n3, .inl (cI, 200, .inl si)), (n4, .inl (cI, 24, .inl u.1.2.2.2.2.2.2.2)), (nx, .inr (0, [.ref x1, .ref x2, .ref x3, .ref x4, .int u.2.2.1.2.2.2, .int u.2.2.2.2])), (x1, .inl (cI, 200, .inl u.2.2.1.1)), (x2, .inl (cI, 200, .inl u.2.2.1.2.1)), (x3, .inl (cI, 200, .inl u.2.2.1.2.2.1)), (x4, .inl (cI, 24, .inl u.2.2.2.1))]) (fun E => (E = "java/lang/IllegalArgumentException" ∧ ep_kdown dn = 1) ∨ (E = "java/lang/IllegalStateException" ∧ ep_kdown dn = 2)) 1 6 := by
  intro sz
  refine vx_ofW (cc := b_D_change) (maxL := 5) (ret := (some .int)) (by decide) rfl ?_
  intro p e s m args below meth c s₁ B hml hno hv
  obtain ⟨rfl, hZ, hsz, hP, hK, hG, hD0⟩ := hv
  have hx := B.exec
  have hb := B.bytes
  have hr := B.returns
  have hts := fun (w : Cond) (h : w ∈ ew_T) => atoms_spec (ws := w_D_change) B.pre w (List.mem_cons_of_mem _ h)
  have hown : s.vm.findClass R_D = some m.cls := findClass_of_methodNamed B.named
  have hlocks := B.notSynchronized
  subst hsz
  have hD := hD0.self (sz := s.heap.size)
  generalize hAe : va_A [(d0, .inr (3, [.ref pl, .ref tp, .ref wi, .ref pg, .ref te, .ref nw, .ref nx])), (pl, .inr (1, [.ref pb, .int dn, .int wr, .int pw])), (pb, .inl (cB, nb, .inl pf)), (tp, .inr (2, [.ref tb, .int ln])), (tb, .inl (cB, nt, .inl tf)), (wi, .inl (cI, 24, .inl wf)), (pg, .inl (cB, 4096, .inl pf2)), (te, .inl (cI, n, .inl t0)), (nw, .inr (0, [.ref n1, .ref n2, .ref n3, .ref n4, .int ex, .int ch])), (n1, .inl (cI, 200, .inl la)), (n2, .inl (cI, 200, .inl fi)), (n3, .inl (cI, 200, .inl si)), (n4, .inl (cI, 24, .inl no)), (nx, .inr (0, [.ref x1, .ref x2, .ref x3, .ref x4, .int xex, .int xch])), (x1, .inl (cI, 200, .inl xla)), (x2, .inl (cI, 200, .inl xfi)), (x3, .inl (cI, 200, .inl xsi)), (x4, .inl (cI, 24, .inl xno))] s.heap.size = A at hD hZ ⊢
  have hA : ∀ q : Nat, s.heap.size ≤ q → A q := fun q h => by rw [← hAe]; exact Or.inr h
  have hS : va_S A s.heap s.heap [] := va_S.rf
  have hP : va_P (dC, dI) vwCl [(d0, .inr (3, [.ref pl, .ref tp, .ref wi, .ref pg, .ref te, .ref nw, .ref nx])), (pl, .inr (1, [.ref pb, .int dn, .int wr, .int pw])), (pb, .inl (cB, nb, .inl pf)), (tp, .inr (2, [.ref tb, .int ln])), (tb, .inl (cB, nt, .inl tf)), (wi, .inl (cI, 24, .inl wf)), (pg, .inl (cB, 4096, .inl pf2)), (te, .inl (cI, n, .inl t0)), (nw, .inr (0, [.ref n1, .ref n2, .ref n3, .ref n4, .int ex, .int ch])), (n1, .inl (cI, 200, .inl la)), (n2, .inl (cI, 200, .inl fi)), (n3, .inl (cI, 200, .inl si)), (n4, .inl (cI, 24, .inl no)), (nx, .inr (0, [.ref x1, .ref x2, .ref x3, .ref x4, .int xex, .int xch])), (x1, .inl (cI, 200, .inl xla)), (x2, .inl (cI, 200, .inl xfi)), (x3, .inl (cI, 200, .inl xsi)), (x4, .inl (cI, 24, .inl xno))] s.heap := hP
  have hl := lv_entry ([.ref d0, .int lab, .int fr, .int to]) (n := 5) (Nat.le_of_ble_eq_true rfl)
  rw [lg_entry_eq]
  generalize (lg_sl ([.ref d0, .int lab, .int fr, .int to]) ++ List.replicate (5 - (lg_sl ([.ref d0, .int lab, .int fr, .int to])).length) Slot.unset).toArray = ls at hl ⊢
  have hl : lv_has ls 5 [(0, .ref d0), (1, .int lab), (2, .int fr), (3, .int to)] := hl
  refine lv_aload_n hx hb d_D_change_0 rfl (lv_at hl 0 rfl) ?_
  refine va_get (D := (dC, dI)) (ci := 3) (v := .ref pl) (C := R_D) (T := T_D) (N := 7) hx hb hts in_D hown hK hP 0 rfl rfl 0 (by decide) (hts _ ew_109) (fun _ h9 => h9) rfl d_D_change_1 ?_
  refine va_get (D := (dC, dI)) (ci := 1) (v := .int dn) (C := R_P) (T := T_P) (N := 4) hx hb hts in_P hown hK hP 1 rfl rfl 1 (by decide) (hts _ ew_48) (fun _ h9 => h9) rfl d_D_change_4 ?_
  refine lv_if_eq (tgt := 20) hx hb d_D_change_7 (by decide) (fun c_7 => ?_) (fun c_7 => ?_)
  · refine lv_aload_n hx hb d_D_change_20 rfl (lv_at hl 0 rfl) ?_
    refine va_get (D := (dC, dI)) (ci := 3) (v := .ref nx) (C := R_D) (T := T_D) (N := 7) hx hb hts in_D hown hK hP 0 rfl rfl 6 (by decide) (hts _ ew_115) (fun _ h9 => h9) rfl d_D_change_21 ?_
    refine lv_aload_n hx hb d_D_change_24 rfl (lv_at hl 0 rfl) ?_
    refine va_get (D := (dC, dI)) (ci := 3) (v := .ref nw) (C := R_D) (T := T_D) (N := 7) hx hb hts in_D hown hK hP 0 rfl rfl 5 (by decide) (hts _ ew_114) (fun _ h9 => h9) rfl d_D_change_25 ?_
    refine lv_iload_n hx hb d_D_change_28 rfl (lv_at hl 2 rfl) ?_
    refine lv_iload_n hx hb d_D_change_29 rfl (lv_at hl 3 rfl) ?_
    refine ey_Vv (Wc := [(nx, .inr (0, [.ref x1, .ref x2, .ref x3, .ref x4, .int xex, .int xch])), (x1, .inl (cI, 200, .inl xla)), (x2, .inl (cI, 200, .inl xfi)), (x3, .inl (cI, 200, .inl xsi)), (x4, .inl (cI, 24, .inl xno)), (nw, .inr (0, [.ref n1, .ref n2, .ref n3, .ref n4, .int ex, .int ch])), (n1, .inl (cI, 200, .inl la)), (n2, .inl (cI, 200, .inl fi)), (n3, .inl (cI, 200, .inl si))]) (wr := [(d0, .inr (3, [.ref pl, .ref tp, .ref wi, .ref pg, .ref te, .ref nw, .ref nx])), (pl, .inr (1, [.ref pb, .int dn, .int wr, .int pw])), (pb, .inl (cB, nb, .inl pf)), (tp, .inr (2, [.ref tb, .int ln])), (tb, .inl (cB, nt, .inl tf)), (wi, .inl (cI, 24, .inl wf)), (pg, .inl (cB, 4096, .inl pf2)), (te, .inl (cI, n, .inl t0)), (n4, .inl (cI, 24, .inl no))]) (As := [.ref nw, .int fr, .int to]) (rest := []) ⟨hx, hb, hml, hown, hts⟩ (c_mf_follow l dC dI cI cB cJ cZ nx x1 x2 x3 x4 xex xch xla xfi xsi xno nw n1 n2 n3 n4 ex ch la fi si fr to) (cwV 3 hts (ew_V ew_319 ew_320 ew_321 ew_17 g_M_follow) rfl rfl rfl (by decide +kernel) ⟨Nat.le_of_ble_eq_true rfl, Nat.le_of_ble_eq_true rfl⟩) hK hG hP hD hS hA [13, 14, 15, 16, 17, 8, 9, 10, 11] [0, 1, 2, 3, 4, 5, 6, 7, 12] rfl rfl (by decide) (by decide) (by decide) (ci := 0) (q0 := 0) rfl rfl rfl hl.1 rfl (Nat.le_of_ble_eq_true rfl) d_D_change_30 ⟨Nat.le_of_ble_eq_true rfl, Nat.le_of_ble_eq_true rfl⟩ (fun u_2 H locs e_3 hP hD hS => ?_)
    have hP : va_P (dC, dI) vwCl [(d0, .inr (3, [.ref pl, .ref tp, .ref wi, .ref pg, .ref te, .ref nw, .ref nx])), (pl, .inr (1, [.ref pb, .int dn, .int wr, .int pw])), (pb, .inl (cB, nb, .inl pf)), (tp, .inr (2, [.ref tb, .int ln])), (tb, .inl (cB, nt, .inl tf)), (wi, .inl (cI, 24, .inl wf)), (pg, .inl (cB, 4096, .inl pf2)), (te, .inl (cI, n, .inl t0)), (n4, .inl (cI, 24, .inl no)), (nx, .inr (0, [.ref x1, .ref x2, .ref x3, .ref x4, .int u_2.1.2.2.2, .int (ch + 1)])), (x1, .inl (cI, 200, .inl u_2.1.1)), (x2, .inl (cI, 200, .inl u_2.1.2.1)), (x3, .inl (cI, 200, .inl u_2.1.2.2.1)), (x4, .inl (cI, 24, .inl u_2.2)), (nw, .inr (0, [.ref n1, .ref n2, .ref n3, .ref n4, .int ex, .int ch])), (n1, .inl (cI, 200, .inl la)), (n2, .inl (cI, 200, .inl fi)), (n3, .inl (cI, 200, .inl si))] H := hP
    have hD : va_D A [(d0, .inr (3, [.ref pl, .ref tp, .ref wi, .ref pg, .ref te, .ref nw, .ref nx])), (pl, .inr (1, [.ref pb, .int dn, .int wr, .int pw])), (pb, .inl (cB, nb, .inl pf)), (tp, .inr (2, [.ref tb, .int ln])), (tb, .inl (cB, nt, .inl tf)), (wi, .inl (cI, 24, .inl wf)), (pg, .inl (cB, 4096, .inl pf2)), (te, .inl (cI, n, .inl t0)), (n4, .inl (cI, 24, .inl no)), (nx, .inr (0, [.ref x1, .ref x2, .ref x3, .ref x4, .int u_2.1.2.2.2, .int (ch + 1)])), (x1, .inl (cI, 200, .inl u_2.1.1)), (x2, .inl (cI, 200, .inl u_2.1.2.1)), (x3, .inl (cI, 200, .inl u_2.1.2.2.1)), (x4, .inl (cI, 24, .inl u_2.2)), (nw, .inr (0, [.ref n1, .ref n2, .ref n3, .ref n4, .int ex, .int ch])), (n1, .inl (cI, 200, .inl la)), (n2, .inl (cI, 200, .inl fi)), (n3, .inl (cI, 200, .inl si))] := hD
    subst e_3
    refine lv_aload_n hx hb d_D_change_33 rfl (lv_at hl 0 rfl) ?_
    refine va_get (D := (dC, dI)) (ci := 3) (v := .ref nx) (C := R_D) (T := T_D) (N := 7) hx hb hts in_D hown hK hP 0 rfl rfl 6 (by decide) (hts _ ew_115) (fun _ h9 => h9) rfl d_D_change_34 ?_
    refine lv_aload_n hx hb d_D_change_37 rfl (lv_at hl 0 rfl) ?_
    refine va_get (D := (dC, dI)) (ci := 3) (v := .ref wi) (C := R_D) (T := T_D) (N := 7) hx hb hts in_D hown hK hP 0 rfl rfl 2 (by decide) (hts _ ew_111) (fun _ h9 => h9) rfl d_D_change_38 ?_
    refine ey_Vv (Wc := [(nx, .inr (0, [.ref x1, .ref x2, .ref x3, .ref x4, .int ((ep_fol la fi si ex fr to 201 0 (xla, xfi, xsi, 0), ep_fill 24 0 xno).1.2.2.2), .int (ch + 1)])), (x4, .inl (cI, 24, .inl ((ep_fol la fi si ex fr to 201 0 (xla, xfi, xsi, 0), ep_fill 24 0 xno).2))), (wi, .inl (cI, 24, .inl wf))]) (wr := [(d0, .inr (3, [.ref pl, .ref tp, .ref wi, .ref pg, .ref te, .ref nw, .ref nx])), (pl, .inr (1, [.ref pb, .int dn, .int wr, .int pw])), (pb, .inl (cB, nb, .inl pf)), (tp, .inr (2, [.ref tb, .int ln])), (tb, .inl (cB, nt, .inl tf)), (pg, .inl (cB, 4096, .inl pf2)), (te, .inl (cI, n, .inl t0)), (n4, .inl (cI, 24, .inl no)), (x1, .inl (cI, 200, .inl ((ep_fol la fi si ex fr to 201 0 (xla, xfi, xsi, 0), ep_fill 24 0 xno).1.1))), (x2, .inl (cI, 200, .inl ((ep_fol la fi si ex fr to 201 0 (xla, xfi, xsi, 0), ep_fill 24 0 xno).1.2.1))), (x3, .inl (cI, 200, .inl ((ep_fol la fi si ex fr to 201 0 (xla, xfi, xsi, 0), ep_fill 24 0 xno).1.2.2.1))), (nw, .inr (0, [.ref n1, .ref n2, .ref n3, .ref n4, .int ex, .int ch])), (n1, .inl (cI, 200, .inl la)), (n2, .inl (cI, 200, .inl fi)), (n3, .inl (cI, 200, .inl si))]) (As := [.ref wi]) (rest := []) ⟨hx, hb, hml, hown, hts⟩ (c_mf_take l dC dI cI cB cJ cZ nx x1 x2 x3 x4 ((ep_fol la fi si ex fr to 201 0 (xla, xfi, xsi, 0), ep_fill 24 0 xno).1.2.2.2) (ch + 1) ((ep_fol la fi si ex fr to 201 0 (xla, xfi, xsi, 0), ep_fill 24 0 xno).2) wi wf) (cwV 1 hts (ew_V ew_323 ew_324 ew_325 ew_17 g_M_takeNotes) rfl rfl rfl (by decide +kernel) ⟨Nat.le_of_ble_eq_true rfl, Nat.le_of_ble_eq_true rfl⟩) hK hG hP hD hS hA [9, 13, 5] [0, 1, 2, 3, 4, 6, 7, 8, 10, 11, 12, 14, 15, 16, 17] rfl rfl (by decide) (by decide) (by decide) (ci := 0) (q0 := 0) rfl rfl rfl hl.1 rfl (Nat.le_of_ble_eq_true rfl) d_D_change_41 ⟨Nat.le_of_ble_eq_true rfl, Nat.le_of_ble_eq_true rfl⟩ (fun u_5 H locs e_6 hP hD hS => ?_)
    have hP : va_P (dC, dI) vwCl [(d0, .inr (3, [.ref pl, .ref tp, .ref wi, .ref pg, .ref te, .ref nw, .ref nx])), (pl, .inr (1, [.ref pb, .int dn, .int wr, .int pw])), (pb, .inl (cB, nb, .inl pf)), (tp, .inr (2, [.ref tb, .int ln])), (tb, .inl (cB, nt, .inl tf)), (pg, .inl (cB, 4096, .inl pf2)), (te, .inl (cI, n, .inl t0)), (n4, .inl (cI, 24, .inl no)), (x1, .inl (cI, 200, .inl ((ep_fol la fi si ex fr to 201 0 (xla, xfi, xsi, 0), ep_fill 24 0 xno).1.1))), (x2, .inl (cI, 200, .inl ((ep_fol la fi si ex fr to 201 0 (xla, xfi, xsi, 0), ep_fill 24 0 xno).1.2.1))), (x3, .inl (cI, 200, .inl ((ep_fol la fi si ex fr to 201 0 (xla, xfi, xsi, 0), ep_fill 24 0 xno).1.2.2.1))), (nw, .inr (0, [.ref n1, .ref n2, .ref n3, .ref n4, .int ex, .int ch])), (n1, .inl (cI, 200, .inl la)), (n2, .inl (cI, 200, .inl fi)), (n3, .inl (cI, 200, .inl si)), (nx, .inr (0, [.ref x1, .ref x2, .ref x3, .ref x4, .int ((ep_fol la fi si ex fr to 201 0 (xla, xfi, xsi, 0), ep_fill 24 0 xno).1.2.2.2), .int (ch + 1)])), (x4, .inl (cI, 24, .inl u_5)), (wi, .inl (cI, 24, .inl wf))] H := hP
    have hD : va_D A [(d0, .inr (3, [.ref pl, .ref tp, .ref wi, .ref pg, .ref te, .ref nw, .ref nx])), (pl, .inr (1, [.ref pb, .int dn, .int wr, .int pw])), (pb, .inl (cB, nb, .inl pf)), (tp, .inr (2, [.ref tb, .int ln])), (tb, .inl (cB, nt, .inl tf)), (pg, .inl (cB, 4096, .inl pf2)), (te, .inl (cI, n, .inl t0)), (n4, .inl (cI, 24, .inl no)), (x1, .inl (cI, 200, .inl ((ep_fol la fi si ex fr to 201 0 (xla, xfi, xsi, 0), ep_fill 24 0 xno).1.1))), (x2, .inl (cI, 200, .inl ((ep_fol la fi si ex fr to 201 0 (xla, xfi, xsi, 0), ep_fill 24 0 xno).1.2.1))), (x3, .inl (cI, 200, .inl ((ep_fol la fi si ex fr to 201 0 (xla, xfi, xsi, 0), ep_fill 24 0 xno).1.2.2.1))), (nw, .inr (0, [.ref n1, .ref n2, .ref n3, .ref n4, .int ex, .int ch])), (n1, .inl (cI, 200, .inl la)), (n2, .inl (cI, 200, .inl fi)), (n3, .inl (cI, 200, .inl si)), (nx, .inr (0, [.ref x1, .ref x2, .ref x3, .ref x4, .int ((ep_fol la fi si ex fr to 201 0 (xla, xfi, xsi, 0), ep_fill 24 0 xno).1.2.2.2), .int (ch + 1)])), (x4, .inl (cI, 24, .inl u_5)), (wi, .inl (cI, 24, .inl wf))] := hD
    subst e_6
    refine lv_iconst (v := (-1)) hx hb d_D_change_44 (by decide) ?_
    refine lv_istore (lv' := [(4, .int (-1)), (0, .ref d0), (1, .int lab), (2, .int fr), (3, .int to)]) hx hb d_D_change_45 hl (by decide) rfl (fun ls hl => ?_)
    refine lv_aload_n hx hb d_D_change_47 rfl (lv_at hl 1 rfl) ?_
    refine va_get (D := (dC, dI)) (ci := 3) (v := .ref tp) (C := R_D) (T := T_D) (N := 7) hx hb hts in_D hown hK hP 0 rfl rfl 1 (by decide) (hts _ ew_110) (fun _ h9 => h9) rfl d_D_change_48 ?_
    refine va_get (D := (dC, dI)) (ci := 2) (v := .int ln) (C := R_Tp) (T := T_Tp) (N := 2) hx hb hts in_Tp hown hK hP 3 rfl rfl 1 (by decide) (hts _ ew_71) (fun _ h9 => h9) rfl d_D_change_51 ?_
    refine lv_if_le (tgt := 102) hx hb d_D_change_54 (by decide) (fun c_54 => ?_) (fun c_54 => ?_)
    · refine lv_aload_n hx hb d_D_change_102 rfl (lv_at hl 1 rfl) ?_
      refine lv_iload hx hb d_D_change_103 (lv_at hl 0 rfl) ?_
      refine ey_Vi (Wc := [(d0, .inr (3, [.ref pl, .ref tp, .ref wi, .ref pg, .ref te, .ref nw, .ref nx])), (pl, .inr (1, [.ref pb, .int dn, .int wr, .int pw])), (pb, .inl (cB, nb, .inl pf)), (tp, .inr (2, [.ref tb, .int ln])), (tb, .inl (cB, nt, .inl tf)), (wi, .inl (cI, 24, .inl wf)), (pg, .inl (cB, 4096, .inl pf2)), (nw, .inr (0, [.ref n1, .ref n2, .ref n3, .ref n4, .int ex, .int ch])), (n4, .inl (cI, 24, .inl no)), (nx, .inr (0, [.ref x1, .ref x2, .ref x3, .ref x4, .int ((ep_fol la fi si ex fr to 201 0 (xla, xfi, xsi, 0), ep_fill 24 0 xno).1.2.2.2), .int (ch + 1)])), (x1, .inl (cI, 200, .inl ((ep_fol la fi si ex fr to 201 0 (xla, xfi, xsi, 0), ep_fill 24 0 xno).1.1))), (x2, .inl (cI, 200, .inl ((ep_fol la fi si ex fr to 201 0 (xla, xfi, xsi, 0), ep_fill 24 0 xno).1.2.1))), (x3, .inl (cI, 200, .inl ((ep_fol la fi si ex fr to 201 0 (xla, xfi, xsi, 0), ep_fill 24 0 xno).1.2.2.1))), (x4, .inl (cI, 24, .inl (ep_tn wf 25 0 ((ep_fol la fi si ex fr to 201 0 (xla, xfi, xsi, 0), ep_fill 24 0 xno).2))))]) (wr := [(te, .inl (cI, n, .inl t0)), (n1, .inl (cI, 200, .inl la)), (n2, .inl (cI, 200, .inl fi)), (n3, .inl (cI, 200, .inl si))]) (As := [.int (-1)]) (rest := []) ⟨hx, hb, hml, hown, hts⟩ (c_ed_carry l dC dI cI cB cJ cZ d0 pl tp wi pg te nw nx pb dn wr pw nb pf tb ln nt tf wf pf2 n1 n2 n3 n4 ex ch no x1 x2 x3 x4 ((ep_fol la fi si ex fr to 201 0 (xla, xfi, xsi, 0), ep_fill 24 0 xno).1.2.2.2) (ch + 1) ((ep_fol la fi si ex fr to 201 0 (xla, xfi, xsi, 0), ep_fill 24 0 xno).1.1) ((ep_fol la fi si ex fr to 201 0 (xla, xfi, xsi, 0), ep_fill 24 0 xno).1.2.1) ((ep_fol la fi si ex fr to 201 0 (xla, xfi, xsi, 0), ep_fill 24 0 xno).1.2.2.1) (ep_tn wf 25 0 ((ep_fol la fi si ex fr to 201 0 (xla, xfi, xsi, 0), ep_fill 24 0 xno).2)) (-1) hnb hnt hnb4 hnt4 htf hpf hrow) (cwV 1 hts (ew_V ew_341 ew_343 ew_3 ew_13 g_D_carryOut) rfl rfl rfl (by decide +kernel) ⟨Nat.le_of_ble_eq_true rfl, Nat.le_of_ble_eq_true rfl⟩) hK hG hP hD hS hA [0, 1, 2, 3, 4, 17, 5, 11, 7, 15, 8, 9, 10, 16] [6, 12, 13, 14] rfl rfl (by decide) (by decide) (by decide) (ci := 3) (q0 := 0) rfl rfl rfl hl.1 rfl (Nat.le_of_ble_eq_true rfl) d_D_change_105 ⟨Nat.le_of_ble_eq_true rfl, Nat.le_of_ble_eq_true rfl⟩ (fun r_7 u_8 H locs e_9 hP hD hS => ?_)
      have hP : va_P (dC, dI) vwCl [(te, .inl (cI, n, .inl t0)), (n1, .inl (cI, 200, .inl la)), (n2, .inl (cI, 200, .inl fi)), (n3, .inl (cI, 200, .inl si)), (d0, .inr (3, [.ref pl, .ref tp, .ref wi, .ref pg, .ref te, .ref u_8.1.1, .ref u_8.1.2])), (pl, .inr (1, [.ref pb, .int u_8.2.1.2.1, .int u_8.2.1.2.2.1, .int u_8.2.1.2.2.2])), (pb, .inl (cB, nb, .inl u_8.2.1.1)), (tp, .inr (2, [.ref tb, .int u_8.2.2.1])), (tb, .inl (cB, nt, .inl tf)), (wi, .inl (cI, 24, .inl u_8.2.2.2.1)), (pg, .inl (cB, 4096, .inl u_8.2.2.2.2.1)), (nw, .inr (0, [.ref n1, .ref n2, .ref n3, .ref n4, .int u_8.2.2.2.2.2.1, .int u_8.2.2.2.2.2.2.1])), (n4, .inl (cI, 24, .inl u_8.2.2.2.2.2.2.2)), (nx, .inr (0, [.ref x1, .ref x2, .ref x3, .ref x4, .int ((ep_fol la fi si ex fr to 201 0 (xla, xfi, xsi, 0), ep_fill 24 0 xno).1.2.2.2), .int (ch + 1)])), (x1, .inl (cI, 200, .inl ((ep_fol la fi si ex fr to 201 0 (xla, xfi, xsi, 0), ep_fill 24 0 xno).1.1))), (x2, .inl (cI, 200, .inl ((ep_fol la fi si ex fr to 201 0 (xla, xfi, xsi, 0), ep_fill 24 0 xno).1.2.1))), (x3, .inl (cI, 200, .inl ((ep_fol la fi si ex fr to 201 0 (xla, xfi, xsi, 0), ep_fill 24 0 xno).1.2.2.1))), (x4, .inl (cI, 24, .inl (ep_tn wf 25 0 ((ep_fol la fi si ex fr to 201 0 (xla, xfi, xsi, 0), ep_fill 24 0 xno).2))))] H := hP
      have hD : va_D A [(te, .inl (cI, n, .inl t0)), (n1, .inl (cI, 200, .inl la)), (n2, .inl (cI, 200, .inl fi)), (n3, .inl (cI, 200, .inl si)), (d0, .inr (3, [.ref pl, .ref tp, .ref wi, .ref pg, .ref te, .ref u_8.1.1, .ref u_8.1.2])), (pl, .inr (1, [.ref pb, .int u_8.2.1.2.1, .int u_8.2.1.2.2.1, .int u_8.2.1.2.2.2])), (pb, .inl (cB, nb, .inl u_8.2.1.1)), (tp, .inr (2, [.ref tb, .int u_8.2.2.1])), (tb, .inl (cB, nt, .inl tf)), (wi, .inl (cI, 24, .inl u_8.2.2.2.1)), (pg, .inl (cB, 4096, .inl u_8.2.2.2.2.1)), (nw, .inr (0, [.ref n1, .ref n2, .ref n3, .ref n4, .int u_8.2.2.2.2.2.1, .int u_8.2.2.2.2.2.2.1])), (n4, .inl (cI, 24, .inl u_8.2.2.2.2.2.2.2)), (nx, .inr (0, [.ref x1, .ref x2, .ref x3, .ref x4, .int ((ep_fol la fi si ex fr to 201 0 (xla, xfi, xsi, 0), ep_fill 24 0 xno).1.2.2.2), .int (ch + 1)])), (x1, .inl (cI, 200, .inl ((ep_fol la fi si ex fr to 201 0 (xla, xfi, xsi, 0), ep_fill 24 0 xno).1.1))), (x2, .inl (cI, 200, .inl ((ep_fol la fi si ex fr to 201 0 (xla, xfi, xsi, 0), ep_fill 24 0 xno).1.2.1))), (x3, .inl (cI, 200, .inl ((ep_fol la fi si ex fr to 201 0 (xla, xfi, xsi, 0), ep_fill 24 0 xno).1.2.2.1))), (x4, .inl (cI, 24, .inl (ep_tn wf 25 0 ((ep_fol la fi si ex fr to 201 0 (xla, xfi, xsi, 0), ep_fill 24 0 xno).2))))] := hD
      obtain ⟨rfl, rfl⟩ : r_7 = (ep_carry nw nx nb nt (pf, dn, wr, pw) tf ln wf pf2 ex ch no ((((ep_fol la fi si ex fr to 201 0 (xla, xfi, xsi, 0), ep_fill 24 0 xno).1.1), ((ep_fol la fi si ex fr to 201 0 (xla, xfi, xsi, 0), ep_fill 24 0 xno).1.2.1), ((ep_fol la fi si ex fr to 201 0 (xla, xfi, xsi, 0), ep_fill 24 0 xno).1.2.2.1), ((ep_fol la fi si ex fr to 201 0 (xla, xfi, xsi, 0), ep_fill 24 0 xno).1.2.2.2)), (ep_tn wf 25 0 ((ep_fol la fi si ex fr to 201 0 (xla, xfi, xsi, 0), ep_fill 24 0 xno).2)), (ch + 1)) (-1)).1 ∧ u_8 = (ep_carry nw nx nb nt (pf, dn, wr, pw) tf ln wf pf2 ex ch no ((((ep_fol la fi si ex fr to 201 0 (xla, xfi, xsi, 0), ep_fill 24 0 xno).1.1), ((ep_fol la fi si ex fr to 201 0 (xla, xfi, xsi, 0), ep_fill 24 0 xno).1.2.1), ((ep_fol la fi si ex fr to 201 0 (xla, xfi, xsi, 0), ep_fill 24 0 xno).1.2.2.1), ((ep_fol la fi si ex fr to 201 0 (xla, xfi, xsi, 0), ep_fill 24 0 xno).1.2.2.2)), (ep_tn wf 25 0 ((ep_fol la fi si ex fr to 201 0 (xla, xfi, xsi, 0), ep_fill 24 0 xno).2)), (ch + 1)) (-1)).2 := ⟨congrArg Prod.fst e_9, congrArg Prod.snd e_9⟩
      refine vx_ret ?_
      exact ey_iret (W1 := fun (u : ((Nat × Nat) × ep_P × Int32 × ep_F × ep_F × Int32 × Int32 × ep_F) × ep_F × ep_M) => [(d0, .inr (3, [.ref pl, .ref tp, .ref wi, .ref pg, .ref te, .ref u.1.1.1, .ref u.1.1.2])), (pl, .inr (1, [.ref pb, .int u.1.2.1.2.1, .int u.1.2.1.2.2.1, .int u.1.2.1.2.2.2])), (pb, .inl (cB, nb, .inl u.1.2.1.1)), (tp, .inr (2, [.ref tb, .int u.1.2.2.1])), (tb, .inl (cB, nt, .inl tf)), (wi, .inl (cI, 24, .inl u.1.2.2.2.1)), (pg, .inl (cB, 4096, .inl u.1.2.2.2.2.1)), (te, .inl (cI, n, .inl u.2.1)), (nw, .inr (0, [.ref n1, .ref n2, .ref n3, .ref n4, .int u.1.2.2.2.2.2.1, .int u.1.2.2.2.2.2.2.1])), (n1, .inl (cI, 200, .inl la)), (n2, .inl (cI, 200, .inl fi)), (n3, .inl (cI, 200, .inl si)), (n4, .inl (cI, 24, .inl u.1.2.2.2.2.2.2.2)), (nx, .inr (0, [.ref x1, .ref x2, .ref x3, .ref x4, .int u.2.2.1.2.2.2, .int u.2.2.2.2])), (x1, .inl (cI, 200, .inl u.2.2.1.1)), (x2, .inl (cI, 200, .inl u.2.2.1.2.1)), (x3, .inl (cI, 200, .inl u.2.2.1.2.2.1)), (x4, .inl (cI, 24, .inl u.2.2.2.1))]) hx hb hr hlocks hP hD hS (((((ep_carry nw nx nb nt (pf, dn, wr, pw) tf ln wf pf2 ex ch no ((((ep_fol la fi si ex fr to 201 0 (xla, xfi, xsi, 0), ep_fill 24 0 xno).1.1), ((ep_fol la fi si ex fr to 201 0 (xla, xfi, xsi, 0), ep_fill 24 0 xno).1.2.1), ((ep_fol la fi si ex fr to 201 0 (xla, xfi, xsi, 0), ep_fill 24 0 xno).1.2.2.1), ((ep_fol la fi si ex fr to 201 0 (xla, xfi, xsi, 0), ep_fill 24 0 xno).1.2.2.2)), (ep_tn wf 25 0 ((ep_fol la fi si ex fr to 201 0 (xla, xfi, xsi, 0), ep_fill 24 0 xno).2)), (ch + 1)) (-1)).2).1.1, ((ep_carry nw nx nb nt (pf, dn, wr, pw) tf ln wf pf2 ex ch no ((((ep_fol la fi si ex fr to 201 0 (xla, xfi, xsi, 0), ep_fill 24 0 xno).1.1), ((ep_fol la fi si ex fr to 201 0 (xla, xfi, xsi, 0), ep_fill 24 0 xno).1.2.1), ((ep_fol la fi si ex fr to 201 0 (xla, xfi, xsi, 0), ep_fill 24 0 xno).1.2.2.1), ((ep_fol la fi si ex fr to 201 0 (xla, xfi, xsi, 0), ep_fill 24 0 xno).1.2.2.2)), (ep_tn wf 25 0 ((ep_fol la fi si ex fr to 201 0 (xla, xfi, xsi, 0), ep_fill 24 0 xno).2)), (ch + 1)) (-1)).2).1.2), (((ep_carry nw nx nb nt (pf, dn, wr, pw) tf ln wf pf2 ex ch no ((((ep_fol la fi si ex fr to 201 0 (xla, xfi, xsi, 0), ep_fill 24 0 xno).1.1), ((ep_fol la fi si ex fr to 201 0 (xla, xfi, xsi, 0), ep_fill 24 0 xno).1.2.1), ((ep_fol la fi si ex fr to 201 0 (xla, xfi, xsi, 0), ep_fill 24 0 xno).1.2.2.1), ((ep_fol la fi si ex fr to 201 0 (xla, xfi, xsi, 0), ep_fill 24 0 xno).1.2.2.2)), (ep_tn wf 25 0 ((ep_fol la fi si ex fr to 201 0 (xla, xfi, xsi, 0), ep_fill 24 0 xno).2)), (ch + 1)) (-1)).2).2.1.1, ((ep_carry nw nx nb nt (pf, dn, wr, pw) tf ln wf pf2 ex ch no ((((ep_fol la fi si ex fr to 201 0 (xla, xfi, xsi, 0), ep_fill 24 0 xno).1.1), ((ep_fol la fi si ex fr to 201 0 (xla, xfi, xsi, 0), ep_fill 24 0 xno).1.2.1), ((ep_fol la fi si ex fr to 201 0 (xla, xfi, xsi, 0), ep_fill 24 0 xno).1.2.2.1), ((ep_fol la fi si ex fr to 201 0 (xla, xfi, xsi, 0), ep_fill 24 0 xno).1.2.2.2)), (ep_tn wf 25 0 ((ep_fol la fi si ex fr to 201 0 (xla, xfi, xsi, 0), ep_fill 24 0 xno).2)), (ch + 1)) (-1)).2).2.1.2.1, ((ep_carry nw nx nb nt (pf, dn, wr, pw) tf ln wf pf2 ex ch no ((((ep_fol la fi si ex fr to 201 0 (xla, xfi, xsi, 0), ep_fill 24 0 xno).1.1), ((ep_fol la fi si ex fr to 201 0 (xla, xfi, xsi, 0), ep_fill 24 0 xno).1.2.1), ((ep_fol la fi si ex fr to 201 0 (xla, xfi, xsi, 0), ep_fill 24 0 xno).1.2.2.1), ((ep_fol la fi si ex fr to 201 0 (xla, xfi, xsi, 0), ep_fill 24 0 xno).1.2.2.2)), (ep_tn wf 25 0 ((ep_fol la fi si ex fr to 201 0 (xla, xfi, xsi, 0), ep_fill 24 0 xno).2)), (ch + 1)) (-1)).2).2.1.2.2.1, ((ep_carry nw nx nb nt (pf, dn, wr, pw) tf ln wf pf2 ex ch no ((((ep_fol la fi si ex fr to 201 0 (xla, xfi, xsi, 0), ep_fill 24 0 xno).1.1), ((ep_fol la fi si ex fr to 201 0 (xla, xfi, xsi, 0), ep_fill 24 0 xno).1.2.1), ((ep_fol la fi si ex fr to 201 0 (xla, xfi, xsi, 0), ep_fill 24 0 xno).1.2.2.1), ((ep_fol la fi si ex fr to 201 0 (xla, xfi, xsi, 0), ep_fill 24 0 xno).1.2.2.2)), (ep_tn wf 25 0 ((ep_fol la fi si ex fr to 201 0 (xla, xfi, xsi, 0), ep_fill 24 0 xno).2)), (ch + 1)) (-1)).2).2.1.2.2.2), ((ep_carry nw nx nb nt (pf, dn, wr, pw) tf ln wf pf2 ex ch no ((((ep_fol la fi si ex fr to 201 0 (xla, xfi, xsi, 0), ep_fill 24 0 xno).1.1), ((ep_fol la fi si ex fr to 201 0 (xla, xfi, xsi, 0), ep_fill 24 0 xno).1.2.1), ((ep_fol la fi si ex fr to 201 0 (xla, xfi, xsi, 0), ep_fill 24 0 xno).1.2.2.1), ((ep_fol la fi si ex fr to 201 0 (xla, xfi, xsi, 0), ep_fill 24 0 xno).1.2.2.2)), (ep_tn wf 25 0 ((ep_fol la fi si ex fr to 201 0 (xla, xfi, xsi, 0), ep_fill 24 0 xno).2)), (ch + 1)) (-1)).2).2.2.1, ((ep_carry nw nx nb nt (pf, dn, wr, pw) tf ln wf pf2 ex ch no ((((ep_fol la fi si ex fr to 201 0 (xla, xfi, xsi, 0), ep_fill 24 0 xno).1.1), ((ep_fol la fi si ex fr to 201 0 (xla, xfi, xsi, 0), ep_fill 24 0 xno).1.2.1), ((ep_fol la fi si ex fr to 201 0 (xla, xfi, xsi, 0), ep_fill 24 0 xno).1.2.2.1), ((ep_fol la fi si ex fr to 201 0 (xla, xfi, xsi, 0), ep_fill 24 0 xno).1.2.2.2)), (ep_tn wf 25 0 ((ep_fol la fi si ex fr to 201 0 (xla, xfi, xsi, 0), ep_fill 24 0 xno).2)), (ch + 1)) (-1)).2).2.2.2.1, ((ep_carry nw nx nb nt (pf, dn, wr, pw) tf ln wf pf2 ex ch no ((((ep_fol la fi si ex fr to 201 0 (xla, xfi, xsi, 0), ep_fill 24 0 xno).1.1), ((ep_fol la fi si ex fr to 201 0 (xla, xfi, xsi, 0), ep_fill 24 0 xno).1.2.1), ((ep_fol la fi si ex fr to 201 0 (xla, xfi, xsi, 0), ep_fill 24 0 xno).1.2.2.1), ((ep_fol la fi si ex fr to 201 0 (xla, xfi, xsi, 0), ep_fill 24 0 xno).1.2.2.2)), (ep_tn wf 25 0 ((ep_fol la fi si ex fr to 201 0 (xla, xfi, xsi, 0), ep_fill 24 0 xno).2)), (ch + 1)) (-1)).2).2.2.2.2.1, ((ep_carry nw nx nb nt (pf, dn, wr, pw) tf ln wf pf2 ex ch no ((((ep_fol la fi si ex fr to 201 0 (xla, xfi, xsi, 0), ep_fill 24 0 xno).1.1), ((ep_fol la fi si ex fr to 201 0 (xla, xfi, xsi, 0), ep_fill 24 0 xno).1.2.1), ((ep_fol la fi si ex fr to 201 0 (xla, xfi, xsi, 0), ep_fill 24 0 xno).1.2.2.1), ((ep_fol la fi si ex fr to 201 0 (xla, xfi, xsi, 0), ep_fill 24 0 xno).1.2.2.2)), (ep_tn wf 25 0 ((ep_fol la fi si ex fr to 201 0 (xla, xfi, xsi, 0), ep_fill 24 0 xno).2)), (ch + 1)) (-1)).2).2.2.2.2.2.1, ((ep_carry nw nx nb nt (pf, dn, wr, pw) tf ln wf pf2 ex ch no ((((ep_fol la fi si ex fr to 201 0 (xla, xfi, xsi, 0), ep_fill 24 0 xno).1.1), ((ep_fol la fi si ex fr to 201 0 (xla, xfi, xsi, 0), ep_fill 24 0 xno).1.2.1), ((ep_fol la fi si ex fr to 201 0 (xla, xfi, xsi, 0), ep_fill 24 0 xno).1.2.2.1), ((ep_fol la fi si ex fr to 201 0 (xla, xfi, xsi, 0), ep_fill 24 0 xno).1.2.2.2)), (ep_tn wf 25 0 ((ep_fol la fi si ex fr to 201 0 (xla, xfi, xsi, 0), ep_fill 24 0 xno).2)), (ch + 1)) (-1)).2).2.2.2.2.2.2.1, ((ep_carry nw nx nb nt (pf, dn, wr, pw) tf ln wf pf2 ex ch no ((((ep_fol la fi si ex fr to 201 0 (xla, xfi, xsi, 0), ep_fill 24 0 xno).1.1), ((ep_fol la fi si ex fr to 201 0 (xla, xfi, xsi, 0), ep_fill 24 0 xno).1.2.1), ((ep_fol la fi si ex fr to 201 0 (xla, xfi, xsi, 0), ep_fill 24 0 xno).1.2.2.1), ((ep_fol la fi si ex fr to 201 0 (xla, xfi, xsi, 0), ep_fill 24 0 xno).1.2.2.2)), (ep_tn wf 25 0 ((ep_fol la fi si ex fr to 201 0 (xla, xfi, xsi, 0), ep_fill 24 0 xno).2)), (ch + 1)) (-1)).2).2.2.2.2.2.2.2), t0, (((ep_fol la fi si ex fr to 201 0 (xla, xfi, xsi, 0), ep_fill 24 0 xno).1.1, (ep_fol la fi si ex fr to 201 0 (xla, xfi, xsi, 0), ep_fill 24 0 xno).1.2.1, (ep_fol la fi si ex fr to 201 0 (xla, xfi, xsi, 0), ep_fill 24 0 xno).1.2.2.1, (ep_fol la fi si ex fr to 201 0 (xla, xfi, xsi, 0), ep_fill 24 0 xno).1.2.2.2), ep_tn wf 25 0 ((ep_fol la fi si ex fr to 201 0 (xla, xfi, xsi, 0), ep_fill 24 0 xno).2), ch + 1)) [4, 5, 6, 7, 8, 9, 10, 0, 11, 1, 2, 3, 12, 13, 14, 15, 16, 17] rfl (by decide) (⟨by simp only [ep_kdown, ↓reduceIte, not_true_eq_false, not_false_eq_true, c_7], by simp only [ep_chg, ep_next, ↓reduceIte, not_true_eq_false, not_false_eq_true, c_54]⟩) d_D_change_108 (Nat.le_of_ble_eq_true rfl) (Nat.le_of_ble_eq_true rfl)
    · refine lv_aload_n hx hb d_D_change_57 rfl (lv_at hl 1 rfl) ?_
      refine lv_aload_n hx hb d_D_change_58 rfl (lv_at hl 1 rfl) ?_
      refine va_get (D := (dC, dI)) (ci := 3) (v := .ref tp) (C := R_D) (T := T_D) (N := 7) hx hb hts in_D hown hK hP 0 rfl rfl 1 (by decide) (hts _ ew_110) (fun _ h9 => h9) rfl d_D_change_59 ?_
      refine va_get (D := (dC, dI)) (ci := 2) (v := .int ln) (C := R_Tp) (T := T_Tp) (N := 2) hx hb hts in_Tp hown hK hP 3 rfl rfl 1 (by decide) (hts _ ew_71) (fun _ h9 => h9) rfl d_D_change_62 ?_
      refine ey_Si (Wc := []) (wr := [(d0, .inr (3, [.ref pl, .ref tp, .ref wi, .ref pg, .ref te, .ref nw, .ref nx])), (pl, .inr (1, [.ref pb, .int dn, .int wr, .int pw])), (pb, .inl (cB, nb, .inl pf)), (tp, .inr (2, [.ref tb, .int ln])), (tb, .inl (cB, nt, .inl tf)), (pg, .inl (cB, 4096, .inl pf2)), (te, .inl (cI, n, .inl t0)), (n4, .inl (cI, 24, .inl no)), (x1, .inl (cI, 200, .inl ((ep_fol la fi si ex fr to 201 0 (xla, xfi, xsi, 0), ep_fill 24 0 xno).1.1))), (x2, .inl (cI, 200, .inl ((ep_fol la fi si ex fr to 201 0 (xla, xfi, xsi, 0), ep_fill 24 0 xno).1.2.1))), (x3, .inl (cI, 200, .inl ((ep_fol la fi si ex fr to 201 0 (xla, xfi, xsi, 0), ep_fill 24 0 xno).1.2.2.1))), (nw, .inr (0, [.ref n1, .ref n2, .ref n3, .ref n4, .int ex, .int ch])), (n1, .inl (cI, 200, .inl la)), (n2, .inl (cI, 200, .inl fi)), (n3, .inl (cI, 200, .inl si)), (nx, .inr (0, [.ref x1, .ref x2, .ref x3, .ref x4, .int ((ep_fol la fi si ex fr to 201 0 (xla, xfi, xsi, 0), ep_fill 24 0 xno).1.2.2.2), .int (ch + 1)])), (x4, .inl (cI, 24, .inl (ep_tn wf 25 0 ((ep_fol la fi si ex fr to 201 0 (xla, xfi, xsi, 0), ep_fill 24 0 xno).2)))), (wi, .inl (cI, 24, .inl wf))]) (As := [.int ln]) (rest := [.ref d0]) ⟨hx, hb, hml, hown, hts⟩ (c_ed_blocks l dC dI cI cB cJ cZ ln) (va_cwS 1 hts (ew_S ew_327 ew_328 ew_13 g_D_blocksFor) rfl rfl rfl (by decide +kernel) ⟨Nat.le_of_ble_eq_true rfl, Nat.le_of_ble_eq_true rfl⟩) hK hG hP hD hS hA [] [0, 1, 2, 3, 4, 5, 6, 7, 8, 9, 10, 11, 12, 13, 14, 15, 16, 17] rfl rfl (by decide) (by decide) (by decide) rfl hl.1 rfl (Nat.le_of_ble_eq_true rfl) d_D_change_65 ⟨Nat.le_of_ble_eq_true rfl, Nat.le_of_ble_eq_true rfl⟩ (fun r_10 u_11 H locs e_12 hP hD hS => ?_)
      have hP : va_P (dC, dI) vwCl [(d0, .inr (3, [.ref pl, .ref tp, .ref wi, .ref pg, .ref te, .ref nw, .ref nx])), (pl, .inr (1, [.ref pb, .int dn, .int wr, .int pw])), (pb, .inl (cB, nb, .inl pf)), (tp, .inr (2, [.ref tb, .int ln])), (tb, .inl (cB, nt, .inl tf)), (pg, .inl (cB, 4096, .inl pf2)), (te, .inl (cI, n, .inl t0)), (n4, .inl (cI, 24, .inl no)), (x1, .inl (cI, 200, .inl ((ep_fol la fi si ex fr to 201 0 (xla, xfi, xsi, 0), ep_fill 24 0 xno).1.1))), (x2, .inl (cI, 200, .inl ((ep_fol la fi si ex fr to 201 0 (xla, xfi, xsi, 0), ep_fill 24 0 xno).1.2.1))), (x3, .inl (cI, 200, .inl ((ep_fol la fi si ex fr to 201 0 (xla, xfi, xsi, 0), ep_fill 24 0 xno).1.2.2.1))), (nw, .inr (0, [.ref n1, .ref n2, .ref n3, .ref n4, .int ex, .int ch])), (n1, .inl (cI, 200, .inl la)), (n2, .inl (cI, 200, .inl fi)), (n3, .inl (cI, 200, .inl si)), (nx, .inr (0, [.ref x1, .ref x2, .ref x3, .ref x4, .int ((ep_fol la fi si ex fr to 201 0 (xla, xfi, xsi, 0), ep_fill 24 0 xno).1.2.2.2), .int (ch + 1)])), (x4, .inl (cI, 24, .inl (ep_tn wf 25 0 ((ep_fol la fi si ex fr to 201 0 (xla, xfi, xsi, 0), ep_fill 24 0 xno).2)))), (wi, .inl (cI, 24, .inl wf))] H := hP
      have hD : va_D A [(d0, .inr (3, [.ref pl, .ref tp, .ref wi, .ref pg, .ref te, .ref nw, .ref nx])), (pl, .inr (1, [.ref pb, .int dn, .int wr, .int pw])), (pb, .inl (cB, nb, .inl pf)), (tp, .inr (2, [.ref tb, .int ln])), (tb, .inl (cB, nt, .inl tf)), (pg, .inl (cB, 4096, .inl pf2)), (te, .inl (cI, n, .inl t0)), (n4, .inl (cI, 24, .inl no)), (x1, .inl (cI, 200, .inl ((ep_fol la fi si ex fr to 201 0 (xla, xfi, xsi, 0), ep_fill 24 0 xno).1.1))), (x2, .inl (cI, 200, .inl ((ep_fol la fi si ex fr to 201 0 (xla, xfi, xsi, 0), ep_fill 24 0 xno).1.2.1))), (x3, .inl (cI, 200, .inl ((ep_fol la fi si ex fr to 201 0 (xla, xfi, xsi, 0), ep_fill 24 0 xno).1.2.2.1))), (nw, .inr (0, [.ref n1, .ref n2, .ref n3, .ref n4, .int ex, .int ch])), (n1, .inl (cI, 200, .inl la)), (n2, .inl (cI, 200, .inl fi)), (n3, .inl (cI, 200, .inl si)), (nx, .inr (0, [.ref x1, .ref x2, .ref x3, .ref x4, .int ((ep_fol la fi si ex fr to 201 0 (xla, xfi, xsi, 0), ep_fill 24 0 xno).1.2.2.2), .int (ch + 1)])), (x4, .inl (cI, 24, .inl (ep_tn wf 25 0 ((ep_fol la fi si ex fr to 201 0 (xla, xfi, xsi, 0), ep_fill 24 0 xno).2)))), (wi, .inl (cI, 24, .inl wf))] := hD
      subst e_12
      refine ey_Vi (Wc := [(d0, .inr (3, [.ref pl, .ref tp, .ref wi, .ref pg, .ref te, .ref nw, .ref nx])), (nw, .inr (0, [.ref n1, .ref n2, .ref n3, .ref n4, .int ex, .int ch])), (n2, .inl (cI, 200, .inl fi)), (n3, .inl (cI, 200, .inl si)), (te, .inl (cI, n, .inl t0))]) (wr := [(pl, .inr (1, [.ref pb, .int dn, .int wr, .int pw])), (pb, .inl (cB, nb, .inl pf)), (tp, .inr (2, [.ref tb, .int ln])), (tb, .inl (cB, nt, .inl tf)), (pg, .inl (cB, 4096, .inl pf2)), (n4, .inl (cI, 24, .inl no)), (x1, .inl (cI, 200, .inl ((ep_fol la fi si ex fr to 201 0 (xla, xfi, xsi, 0), ep_fill 24 0 xno).1.1))), (x2, .inl (cI, 200, .inl ((ep_fol la fi si ex fr to 201 0 (xla, xfi, xsi, 0), ep_fill 24 0 xno).1.2.1))), (x3, .inl (cI, 200, .inl ((ep_fol la fi si ex fr to 201 0 (xla, xfi, xsi, 0), ep_fill 24 0 xno).1.2.2.1))), (n1, .inl (cI, 200, .inl la)), (nx, .inr (0, [.ref x1, .ref x2, .ref x3, .ref x4, .int ((ep_fol la fi si ex fr to 201 0 (xla, xfi, xsi, 0), ep_fill 24 0 xno).1.2.2.2), .int (ch + 1)])), (x4, .inl (cI, 24, .inl (ep_tn wf 25 0 ((ep_fol la fi si ex fr to 201 0 (xla, xfi, xsi, 0), ep_fill 24 0 xno).2)))), (wi, .inl (cI, 24, .inl wf))]) (As := [.int (ep_blocks ln)]) (rest := []) ⟨hx, hb, hml, hown, hts⟩ (c_ed_first l dC dI cI cB cJ cZ d0 pl tp wi pg te nw nx n1 n2 n3 n4 ex ch fi si n t0 (ep_blocks ln) hn hn2) (cwV 1 hts (ew_V ew_330 ew_332 ew_2 ew_13 g_D_firstFreeRow) rfl rfl rfl (by decide +kernel) ⟨Nat.le_of_ble_eq_true rfl, Nat.le_of_ble_eq_true rfl⟩) hK hG hP hD hS hA [0, 11, 13, 14, 6] [1, 2, 3, 4, 5, 7, 8, 9, 10, 12, 15, 16, 17] rfl rfl (by decide) (by decide) (by decide) (ci := 3) (q0 := 0) rfl rfl rfl hl.1 rfl (Nat.le_of_ble_eq_true rfl) d_D_change_68 ⟨Nat.le_of_ble_eq_true rfl, Nat.le_of_ble_eq_true rfl⟩ (fun r_13 u_14 H locs e_15 hP hD hS => ?_)
      have hP : va_P (dC, dI) vwCl [(pl, .inr (1, [.ref pb, .int dn, .int wr, .int pw])), (pb, .inl (cB, nb, .inl pf)), (tp, .inr (2, [.ref tb, .int ln])), (tb, .inl (cB, nt, .inl tf)), (pg, .inl (cB, 4096, .inl pf2)), (n4, .inl (cI, 24, .inl no)), (x1, .inl (cI, 200, .inl ((ep_fol la fi si ex fr to 201 0 (xla, xfi, xsi, 0), ep_fill 24 0 xno).1.1))), (x2, .inl (cI, 200, .inl ((ep_fol la fi si ex fr to 201 0 (xla, xfi, xsi, 0), ep_fill 24 0 xno).1.2.1))), (x3, .inl (cI, 200, .inl ((ep_fol la fi si ex fr to 201 0 (xla, xfi, xsi, 0), ep_fill 24 0 xno).1.2.2.1))), (n1, .inl (cI, 200, .inl la)), (nx, .inr (0, [.ref x1, .ref x2, .ref x3, .ref x4, .int ((ep_fol la fi si ex fr to 201 0 (xla, xfi, xsi, 0), ep_fill 24 0 xno).1.2.2.2), .int (ch + 1)])), (x4, .inl (cI, 24, .inl (ep_tn wf 25 0 ((ep_fol la fi si ex fr to 201 0 (xla, xfi, xsi, 0), ep_fill 24 0 xno).2)))), (wi, .inl (cI, 24, .inl wf)), (d0, .inr (3, [.ref pl, .ref tp, .ref wi, .ref pg, .ref te, .ref nw, .ref nx])), (nw, .inr (0, [.ref n1, .ref n2, .ref n3, .ref n4, .int ex, .int ch])), (n2, .inl (cI, 200, .inl fi)), (n3, .inl (cI, 200, .inl si)), (te, .inl (cI, n, .inl u_14))] H := hP
      have hD : va_D A [(pl, .inr (1, [.ref pb, .int dn, .int wr, .int pw])), (pb, .inl (cB, nb, .inl pf)), (tp, .inr (2, [.ref tb, .int ln])), (tb, .inl (cB, nt, .inl tf)), (pg, .inl (cB, 4096, .inl pf2)), (n4, .inl (cI, 24, .inl no)), (x1, .inl (cI, 200, .inl ((ep_fol la fi si ex fr to 201 0 (xla, xfi, xsi, 0), ep_fill 24 0 xno).1.1))), (x2, .inl (cI, 200, .inl ((ep_fol la fi si ex fr to 201 0 (xla, xfi, xsi, 0), ep_fill 24 0 xno).1.2.1))), (x3, .inl (cI, 200, .inl ((ep_fol la fi si ex fr to 201 0 (xla, xfi, xsi, 0), ep_fill 24 0 xno).1.2.2.1))), (n1, .inl (cI, 200, .inl la)), (nx, .inr (0, [.ref x1, .ref x2, .ref x3, .ref x4, .int ((ep_fol la fi si ex fr to 201 0 (xla, xfi, xsi, 0), ep_fill 24 0 xno).1.2.2.2), .int (ch + 1)])), (x4, .inl (cI, 24, .inl (ep_tn wf 25 0 ((ep_fol la fi si ex fr to 201 0 (xla, xfi, xsi, 0), ep_fill 24 0 xno).2)))), (wi, .inl (cI, 24, .inl wf)), (d0, .inr (3, [.ref pl, .ref tp, .ref wi, .ref pg, .ref te, .ref nw, .ref nx])), (nw, .inr (0, [.ref n1, .ref n2, .ref n3, .ref n4, .int ex, .int ch])), (n2, .inl (cI, 200, .inl fi)), (n3, .inl (cI, 200, .inl si)), (te, .inl (cI, n, .inl u_14))] := hD
      obtain ⟨rfl, rfl⟩ : r_13 = (ep_first fi si ex n t0 (ep_blocks ln)).1 ∧ u_14 = (ep_first fi si ex n t0 (ep_blocks ln)).2 := ⟨congrArg Prod.fst e_15, congrArg Prod.snd e_15⟩
      refine lv_istore (lv' := [(4, .int ((ep_first fi si ex n t0 (ep_blocks ln)).1)), (0, .ref d0), (1, .int lab), (2, .int fr), (3, .int to)]) hx hb d_D_change_71 hl (by decide) rfl (fun ls hl => ?_)
      refine lv_iload hx hb d_D_change_73 (lv_at hl 0 rfl) ?_
      refine lv_iconst (v := (-1)) hx hb d_D_change_75 (by decide) ?_
      refine lv_icmp_eq (tgt := 99) hx hb d_D_change_76 (by decide) (fun c_76 => ?_) (fun c_76 => ?_)
      · refine lv_bipush (v := (-2)) hx hb d_D_change_99 (by decide) ?_
        refine vx_ret ?_
        exact ey_iret (W1 := fun (u : ((Nat × Nat) × ep_P × Int32 × ep_F × ep_F × Int32 × Int32 × ep_F) × ep_F × ep_M) => [(d0, .inr (3, [.ref pl, .ref tp, .ref wi, .ref pg, .ref te, .ref u.1.1.1, .ref u.1.1.2])), (pl, .inr (1, [.ref pb, .int u.1.2.1.2.1, .int u.1.2.1.2.2.1, .int u.1.2.1.2.2.2])), (pb, .inl (cB, nb, .inl u.1.2.1.1)), (tp, .inr (2, [.ref tb, .int u.1.2.2.1])), (tb, .inl (cB, nt, .inl tf)), (wi, .inl (cI, 24, .inl u.1.2.2.2.1)), (pg, .inl (cB, 4096, .inl u.1.2.2.2.2.1)), (te, .inl (cI, n, .inl u.2.1)), (nw, .inr (0, [.ref n1, .ref n2, .ref n3, .ref n4, .int u.1.2.2.2.2.2.1, .int u.1.2.2.2.2.2.2.1])), (n1, .inl (cI, 200, .inl la)), (n2, .inl (cI, 200, .inl fi)), (n3, .inl (cI, 200, .inl si)), (n4, .inl (cI, 24, .inl u.1.2.2.2.2.2.2.2)), (nx, .inr (0, [.ref x1, .ref x2, .ref x3, .ref x4, .int u.2.2.1.2.2.2, .int u.2.2.2.2])), (x1, .inl (cI, 200, .inl u.2.2.1.1)), (x2, .inl (cI, 200, .inl u.2.2.1.2.1)), (x3, .inl (cI, 200, .inl u.2.2.1.2.2.1)), (x4, .inl (cI, 24, .inl u.2.2.2.1))]) hx hb hr hlocks hP hD hS (((nw, nx), (pf, dn, wr, pw), ln, wf, pf2, ex, ch, no), ((ep_first fi si ex n t0 (ep_blocks ln)).2), (((ep_fol la fi si ex fr to 201 0 (xla, xfi, xsi, 0), ep_fill 24 0 xno).1.1, (ep_fol la fi si ex fr to 201 0 (xla, xfi, xsi, 0), ep_fill 24 0 xno).1.2.1, (ep_fol la fi si ex fr to 201 0 (xla, xfi, xsi, 0), ep_fill 24 0 xno).1.2.2.1, (ep_fol la fi si ex fr to 201 0 (xla, xfi, xsi, 0), ep_fill 24 0 xno).1.2.2.2), (ep_tn wf 25 0 ((ep_fol la fi si ex fr to 201 0 (xla, xfi, xsi, 0), ep_fill 24 0 xno).2)), ch + 1)) [13, 0, 1, 2, 3, 12, 4, 17, 14, 9, 15, 16, 5, 10, 6, 7, 8, 11] rfl (by decide) (⟨by simp only [ep_kdown, ↓reduceIte, not_true_eq_false, not_false_eq_true, c_7], by simp only [ep_chg, ep_next, ↓reduceIte, not_true_eq_false, not_false_eq_true, c_54, c_76]⟩) d_D_change_101 (Nat.le_of_ble_eq_true rfl) (Nat.le_of_ble_eq_true rfl)
      · refine lv_aload_n hx hb d_D_change_79 rfl (lv_at hl 1 rfl) ?_
        refine va_get (D := (dC, dI)) (ci := 3) (v := .ref nx) (C := R_D) (T := T_D) (N := 7) hx hb hts in_D hown hK hP 13 rfl rfl 6 (by decide) (hts _ ew_115) (fun _ h9 => h9) rfl d_D_change_80 ?_
        refine lv_iload_n hx hb d_D_change_83 rfl (lv_at hl 2 rfl) ?_
        refine lv_iload hx hb d_D_change_84 (lv_at hl 0 rfl) ?_
        refine lv_aload_n hx hb d_D_change_86 rfl (lv_at hl 1 rfl) ?_
        refine va_get (D := (dC, dI)) (ci := 3) (v := .ref tp) (C := R_D) (T := T_D) (N := 7) hx hb hts in_D hown hK hP 13 rfl rfl 1 (by decide) (hts _ ew_110) (fun _ h9 => h9) rfl d_D_change_87 ?_
        refine va_get (D := (dC, dI)) (ci := 2) (v := .int ln) (C := R_Tp) (T := T_Tp) (N := 2) hx hb hts in_Tp hown hK hP 2 rfl rfl 1 (by decide) (hts _ ew_71) (fun _ h9 => h9) rfl d_D_change_90 ?_
        refine ey_Vi (Wc := [(nx, .inr (0, [.ref x1, .ref x2, .ref x3, .ref x4, .int ((ep_fol la fi si ex fr to 201 0 (xla, xfi, xsi, 0), ep_fill 24 0 xno).1.2.2.2), .int (ch + 1)])), (x1, .inl (cI, 200, .inl ((ep_fol la fi si ex fr to 201 0 (xla, xfi, xsi, 0), ep_fill 24 0 xno).1.1))), (x2, .inl (cI, 200, .inl ((ep_fol la fi si ex fr to 201 0 (xla, xfi, xsi, 0), ep_fill 24 0 xno).1.2.1))), (x3, .inl (cI, 200, .inl ((ep_fol la fi si ex fr to 201 0 (xla, xfi, xsi, 0), ep_fill 24 0 xno).1.2.2.1)))]) (wr := [(pl, .inr (1, [.ref pb, .int dn, .int wr, .int pw])), (pb, .inl (cB, nb, .inl pf)), (tp, .inr (2, [.ref tb, .int ln])), (tb, .inl (cB, nt, .inl tf)), (pg, .inl (cB, 4096, .inl pf2)), (n4, .inl (cI, 24, .inl no)), (n1, .inl (cI, 200, .inl la)), (x4, .inl (cI, 24, .inl (ep_tn wf 25 0 ((ep_fol la fi si ex fr to 201 0 (xla, xfi, xsi, 0), ep_fill 24 0 xno).2)))), (wi, .inl (cI, 24, .inl wf)), (d0, .inr (3, [.ref pl, .ref tp, .ref wi, .ref pg, .ref te, .ref nw, .ref nx])), (nw, .inr (0, [.ref n1, .ref n2, .ref n3, .ref n4, .int ex, .int ch])), (n2, .inl (cI, 200, .inl fi)), (n3, .inl (cI, 200, .inl si)), (te, .inl (cI, n, .inl ((ep_first fi si ex n t0 (ep_blocks ln)).2)))]) (As := [.int lab, .int ((ep_first fi si ex n t0 (ep_blocks ln)).1), .int ln]) (rest := []) ⟨hx, hb, hml, hown, hts⟩ (c_mf_add l dC dI cI cB cJ cZ nx x1 x2 x3 x4 ((ep_fol la fi si ex fr to 201 0 (xla, xfi, xsi, 0), ep_fill 24 0 xno).1.2.2.2) (ch + 1) ((ep_fol la fi si ex fr to 201 0 (xla, xfi, xsi, 0), ep_fill 24 0 xno).1.1) ((ep_fol la fi si ex fr to 201 0 (xla, xfi, xsi, 0), ep_fill 24 0 xno).1.2.1) ((ep_fol la fi si ex fr to 201 0 (xla, xfi, xsi, 0), ep_fill 24 0 xno).1.2.2.1) lab ((ep_first fi si ex n t0 (ep_blocks ln)).1) ln) (cwV 3 hts (ew_V ew_340 ew_160 ew_161 ew_17 g_M_add) rfl rfl rfl (by decide +kernel) ⟨Nat.le_of_ble_eq_true rfl, Nat.le_of_ble_eq_true rfl⟩) hK hG hP hD hS hA [10, 6, 7, 8] [0, 1, 2, 3, 4, 5, 9, 11, 12, 13, 14, 15, 16, 17] rfl rfl (by decide) (by decide) (by decide) (ci := 0) (q0 := 0) rfl rfl rfl hl.1 rfl (Nat.le_of_ble_eq_true rfl) d_D_change_93 ⟨Nat.le_of_ble_eq_true rfl, Nat.le_of_ble_eq_true rfl⟩ (fun r_16 u_17 H locs e_18 hP hD hS => ?_)
        have hP : va_P (dC, dI) vwCl [(pl, .inr (1, [.ref pb, .int dn, .int wr, .int pw])), (pb, .inl (cB, nb, .inl pf)), (tp, .inr (2, [.ref tb, .int ln])), (tb, .inl (cB, nt, .inl tf)), (pg, .inl (cB, 4096, .inl pf2)), (n4, .inl (cI, 24, .inl no)), (n1, .inl (cI, 200, .inl la)), (x4, .inl (cI, 24, .inl (ep_tn wf 25 0 ((ep_fol la fi si ex fr to 201 0 (xla, xfi, xsi, 0), ep_fill 24 0 xno).2)))), (wi, .inl (cI, 24, .inl wf)), (d0, .inr (3, [.ref pl, .ref tp, .ref wi, .ref pg, .ref te, .ref nw, .ref nx])), (nw, .inr (0, [.ref n1, .ref n2, .ref n3, .ref n4, .int ex, .int ch])), (n2, .inl (cI, 200, .inl fi)), (n3, .inl (cI, 200, .inl si)), (te, .inl (cI, n, .inl ((ep_first fi si ex n t0 (ep_blocks ln)).2))), (nx, .inr (0, [.ref x1, .ref x2, .ref x3, .ref x4, .int u_17.2.2.2, .int (ch + 1)])), (x1, .inl (cI, 200, .inl u_17.1)), (x2, .inl (cI, 200, .inl u_17.2.1)), (x3, .inl (cI, 200, .inl u_17.2.2.1))] H := hP
        have hD : va_D A [(pl, .inr (1, [.ref pb, .int dn, .int wr, .int pw])), (pb, .inl (cB, nb, .inl pf)), (tp, .inr (2, [.ref tb, .int ln])), (tb, .inl (cB, nt, .inl tf)), (pg, .inl (cB, 4096, .inl pf2)), (n4, .inl (cI, 24, .inl no)), (n1, .inl (cI, 200, .inl la)), (x4, .inl (cI, 24, .inl (ep_tn wf 25 0 ((ep_fol la fi si ex fr to 201 0 (xla, xfi, xsi, 0), ep_fill 24 0 xno).2)))), (wi, .inl (cI, 24, .inl wf)), (d0, .inr (3, [.ref pl, .ref tp, .ref wi, .ref pg, .ref te, .ref nw, .ref nx])), (nw, .inr (0, [.ref n1, .ref n2, .ref n3, .ref n4, .int ex, .int ch])), (n2, .inl (cI, 200, .inl fi)), (n3, .inl (cI, 200, .inl si)), (te, .inl (cI, n, .inl ((ep_first fi si ex n t0 (ep_blocks ln)).2))), (nx, .inr (0, [.ref x1, .ref x2, .ref x3, .ref x4, .int u_17.2.2.2, .int (ch + 1)])), (x1, .inl (cI, 200, .inl u_17.1)), (x2, .inl (cI, 200, .inl u_17.2.1)), (x3, .inl (cI, 200, .inl u_17.2.2.1))] := hD
        obtain ⟨rfl, rfl⟩ : r_16 = (ep_add (((ep_fol la fi si ex fr to 201 0 (xla, xfi, xsi, 0), ep_fill 24 0 xno).1.1), ((ep_fol la fi si ex fr to 201 0 (xla, xfi, xsi, 0), ep_fill 24 0 xno).1.2.1), ((ep_fol la fi si ex fr to 201 0 (xla, xfi, xsi, 0), ep_fill 24 0 xno).1.2.2.1), ((ep_fol la fi si ex fr to 201 0 (xla, xfi, xsi, 0), ep_fill 24 0 xno).1.2.2.2)) lab ((ep_first fi si ex n t0 (ep_blocks ln)).1) ln).1 ∧ u_17 = (ep_add (((ep_fol la fi si ex fr to 201 0 (xla, xfi, xsi, 0), ep_fill 24 0 xno).1.1), ((ep_fol la fi si ex fr to 201 0 (xla, xfi, xsi, 0), ep_fill 24 0 xno).1.2.1), ((ep_fol la fi si ex fr to 201 0 (xla, xfi, xsi, 0), ep_fill 24 0 xno).1.2.2.1), ((ep_fol la fi si ex fr to 201 0 (xla, xfi, xsi, 0), ep_fill 24 0 xno).1.2.2.2)) lab ((ep_first fi si ex n t0 (ep_blocks ln)).1) ln).2 := ⟨congrArg Prod.fst e_18, congrArg Prod.snd e_18⟩
        refine lv_if_ne (tgt := 102) hx hb d_D_change_96 (by decide) (fun c_96 => ?_) (fun c_96 => ?_)
        · refine lv_aload_n hx hb d_D_change_102 rfl (lv_at hl 1 rfl) ?_
          refine lv_iload hx hb d_D_change_103 (lv_at hl 0 rfl) ?_
          refine ey_Vi (Wc := [(d0, .inr (3, [.ref pl, .ref tp, .ref wi, .ref pg, .ref te, .ref nw, .ref nx])), (pl, .inr (1, [.ref pb, .int dn, .int wr, .int pw])), (pb, .inl (cB, nb, .inl pf)), (tp, .inr (2, [.ref tb, .int ln])), (tb, .inl (cB, nt, .inl tf)), (wi, .inl (cI, 24, .inl wf)), (pg, .inl (cB, 4096, .inl pf2)), (nw, .inr (0, [.ref n1, .ref n2, .ref n3, .ref n4, .int ex, .int ch])), (n4, .inl (cI, 24, .inl no)), (nx, .inr (0, [.ref x1, .ref x2, .ref x3, .ref x4, .int (((ep_add (((ep_fol la fi si ex fr to 201 0 (xla, xfi, xsi, 0), ep_fill 24 0 xno).1.1), ((ep_fol la fi si ex fr to 201 0 (xla, xfi, xsi, 0), ep_fill 24 0 xno).1.2.1), ((ep_fol la fi si ex fr to 201 0 (xla, xfi, xsi, 0), ep_fill 24 0 xno).1.2.2.1), ((ep_fol la fi si ex fr to 201 0 (xla, xfi, xsi, 0), ep_fill 24 0 xno).1.2.2.2)) lab ((ep_first fi si ex n t0 (ep_blocks ln)).1) ln).2).2.2.2), .int (ch + 1)])), (x1, .inl (cI, 200, .inl (((ep_add (((ep_fol la fi si ex fr to 201 0 (xla, xfi, xsi, 0), ep_fill 24 0 xno).1.1), ((ep_fol la fi si ex fr to 201 0 (xla, xfi, xsi, 0), ep_fill 24 0 xno).1.2.1), ((ep_fol la fi si ex fr to 201 0 (xla, xfi, xsi, 0), ep_fill 24 0 xno).1.2.2.1), ((ep_fol la fi si ex fr to 201 0 (xla, xfi, xsi, 0), ep_fill 24 0 xno).1.2.2.2)) lab ((ep_first fi si ex n t0 (ep_blocks ln)).1) ln).2).1))), (x2, .inl (cI, 200, .inl (((ep_add (((ep_fol la fi si ex fr to 201 0 (xla, xfi, xsi, 0), ep_fill 24 0 xno).1.1), ((ep_fol la fi si ex fr to 201 0 (xla, xfi, xsi, 0), ep_fill 24 0 xno).1.2.1), ((ep_fol la fi si ex fr to 201 0 (xla, xfi, xsi, 0), ep_fill 24 0 xno).1.2.2.1), ((ep_fol la fi si ex fr to 201 0 (xla, xfi, xsi, 0), ep_fill 24 0 xno).1.2.2.2)) lab ((ep_first fi si ex n t0 (ep_blocks ln)).1) ln).2).2.1))), (x3, .inl (cI, 200, .inl (((ep_add (((ep_fol la fi si ex fr to 201 0 (xla, xfi, xsi, 0), ep_fill 24 0 xno).1.1), ((ep_fol la fi si ex fr to 201 0 (xla, xfi, xsi, 0), ep_fill 24 0 xno).1.2.1), ((ep_fol la fi si ex fr to 201 0 (xla, xfi, xsi, 0), ep_fill 24 0 xno).1.2.2.1), ((ep_fol la fi si ex fr to 201 0 (xla, xfi, xsi, 0), ep_fill 24 0 xno).1.2.2.2)) lab ((ep_first fi si ex n t0 (ep_blocks ln)).1) ln).2).2.2.1))), (x4, .inl (cI, 24, .inl (ep_tn wf 25 0 ((ep_fol la fi si ex fr to 201 0 (xla, xfi, xsi, 0), ep_fill 24 0 xno).2))))]) (wr := [(n1, .inl (cI, 200, .inl la)), (n2, .inl (cI, 200, .inl fi)), (n3, .inl (cI, 200, .inl si)), (te, .inl (cI, n, .inl ((ep_first fi si ex n t0 (ep_blocks ln)).2)))]) (As := [.int ((ep_first fi si ex n t0 (ep_blocks ln)).1)]) (rest := []) ⟨hx, hb, hml, hown, hts⟩ (c_ed_carry l dC dI cI cB cJ cZ d0 pl tp wi pg te nw nx pb dn wr pw nb pf tb ln nt tf wf pf2 n1 n2 n3 n4 ex ch no x1 x2 x3 x4 (((ep_add (((ep_fol la fi si ex fr to 201 0 (xla, xfi, xsi, 0), ep_fill 24 0 xno).1.1), ((ep_fol la fi si ex fr to 201 0 (xla, xfi, xsi, 0), ep_fill 24 0 xno).1.2.1), ((ep_fol la fi si ex fr to 201 0 (xla, xfi, xsi, 0), ep_fill 24 0 xno).1.2.2.1), ((ep_fol la fi si ex fr to 201 0 (xla, xfi, xsi, 0), ep_fill 24 0 xno).1.2.2.2)) lab ((ep_first fi si ex n t0 (ep_blocks ln)).1) ln).2).2.2.2) (ch + 1) (((ep_add (((ep_fol la fi si ex fr to 201 0 (xla, xfi, xsi, 0), ep_fill 24 0 xno).1.1), ((ep_fol la fi si ex fr to 201 0 (xla, xfi, xsi, 0), ep_fill 24 0 xno).1.2.1), ((ep_fol la fi si ex fr to 201 0 (xla, xfi, xsi, 0), ep_fill 24 0 xno).1.2.2.1), ((ep_fol la fi si ex fr to 201 0 (xla, xfi, xsi, 0), ep_fill 24 0 xno).1.2.2.2)) lab ((ep_first fi si ex n t0 (ep_blocks ln)).1) ln).2).1) (((ep_add (((ep_fol la fi si ex fr to 201 0 (xla, xfi, xsi, 0), ep_fill 24 0 xno).1.1), ((ep_fol la fi si ex fr to 201 0 (xla, xfi, xsi, 0), ep_fill 24 0 xno).1.2.1), ((ep_fol la fi si ex fr to 201 0 (xla, xfi, xsi, 0), ep_fill 24 0 xno).1.2.2.1), ((ep_fol la fi si ex fr to 201 0 (xla, xfi, xsi, 0), ep_fill 24 0 xno).1.2.2.2)) lab ((ep_first fi si ex n t0 (ep_blocks ln)).1) ln).2).2.1) (((ep_add (((ep_fol la fi si ex fr to 201 0 (xla, xfi, xsi, 0), ep_fill 24 0 xno).1.1), ((ep_fol la fi si ex fr to 201 0 (xla, xfi, xsi, 0), ep_fill 24 0 xno).1.2.1), ((ep_fol la fi si ex fr to 201 0 (xla, xfi, xsi, 0), ep_fill 24 0 xno).1.2.2.1), ((ep_fol la fi si ex fr to 201 0 (xla, xfi, xsi, 0), ep_fill 24 0 xno).1.2.2.2)) lab ((ep_first fi si ex n t0 (ep_blocks ln)).1) ln).2).2.2.1) (ep_tn wf 25 0 ((ep_fol la fi si ex fr to 201 0 (xla, xfi, xsi, 0), ep_fill 24 0 xno).2)) ((ep_first fi si ex n t0 (ep_blocks ln)).1) hnb hnt hnb4 hnt4 htf hpf hrow) (cwV 1 hts (ew_V ew_341 ew_343 ew_3 ew_13 g_D_carryOut) rfl rfl rfl (by decide +kernel) ⟨Nat.le_of_ble_eq_true rfl, Nat.le_of_ble_eq_true rfl⟩) hK hG hP hD hS hA [9, 0, 1, 2, 3, 8, 4, 10, 5, 14, 15, 16, 17, 7] [6, 11, 12, 13] rfl rfl (by decide) (by decide) (by decide) (ci := 3) (q0 := 0) rfl rfl rfl hl.1 rfl (Nat.le_of_ble_eq_true rfl) d_D_change_105 ⟨Nat.le_of_ble_eq_true rfl, Nat.le_of_ble_eq_true rfl⟩ (fun r_19 u_20 H locs e_21 hP hD hS => ?_)
          have hP : va_P (dC, dI) vwCl [(n1, .inl (cI, 200, .inl la)), (n2, .inl (cI, 200, .inl fi)), (n3, .inl (cI, 200, .inl si)), (te, .inl (cI, n, .inl ((ep_first fi si ex n t0 (ep_blocks ln)).2))), (d0, .inr (3, [.ref pl, .ref tp, .ref wi, .ref pg, .ref te, .ref u_20.1.1, .ref u_20.1.2])), (pl, .inr (1, [.ref pb, .int u_20.2.1.2.1, .int u_20.2.1.2.2.1, .int u_20.2.1.2.2.2])), (pb, .inl (cB, nb, .inl u_20.2.1.1)), (tp, .inr (2, [.ref tb, .int u_20.2.2.1])), (tb, .inl (cB, nt, .inl tf)), (wi, .inl (cI, 24, .inl u_20.2.2.2.1)), (pg, .inl (cB, 4096, .inl u_20.2.2.2.2.1)), (nw, .inr (0, [.ref n1, .ref n2, .ref n3, .ref n4, .int u_20.2.2.2.2.2.1, .int u_20.2.2.2.2.2.2.1])), (n4, .inl (cI, 24, .inl u_20.2.2.2.2.2.2.2)), (nx, .inr (0, [.ref x1, .ref x2, .ref x3, .ref x4, .int (((ep_add (((ep_fol la fi si ex fr to 201 0 (xla, xfi, xsi, 0), ep_fill 24 0 xno).1.1), ((ep_fol la fi si ex fr to 201 0 (xla, xfi, xsi, 0), ep_fill 24 0 xno).1.2.1), ((ep_fol la fi si ex fr to 201 0 (xla, xfi, xsi, 0), ep_fill 24 0 xno).1.2.2.1), ((ep_fol la fi si ex fr to 201 0 (xla, xfi, xsi, 0), ep_fill 24 0 xno).1.2.2.2)) lab ((ep_first fi si ex n t0 (ep_blocks ln)).1) ln).2).2.2.2), .int (ch + 1)])), (x1, .inl (cI, 200, .inl (((ep_add (((ep_fol la fi si ex fr to 201 0 (xla, xfi, xsi, 0), ep_fill 24 0 xno).1.1), ((ep_fol la fi si ex fr to 201 0 (xla, xfi, xsi, 0), ep_fill 24 0 xno).1.2.1), ((ep_fol la fi si ex fr to 201 0 (xla, xfi, xsi, 0), ep_fill 24 0 xno).1.2.2.1), ((ep_fol la fi si ex fr to 201 0 (xla, xfi, xsi, 0), ep_fill 24 0 xno).1.2.2.2)) lab ((ep_first fi si ex n t0 (ep_blocks ln)).1) ln).2).1))), (x2, .inl (cI, 200, .inl (((ep_add (((ep_fol la fi si ex fr to 201 0 (xla, xfi, xsi, 0), ep_fill 24 0 xno).1.1), ((ep_fol la fi si ex fr to 201 0 (xla, xfi, xsi, 0), ep_fill 24 0 xno).1.2.1), ((ep_fol la fi si ex fr to 201 0 (xla, xfi, xsi, 0), ep_fill 24 0 xno).1.2.2.1), ((ep_fol la fi si ex fr to 201 0 (xla, xfi, xsi, 0), ep_fill 24 0 xno).1.2.2.2)) lab ((ep_first fi si ex n t0 (ep_blocks ln)).1) ln).2).2.1))), (x3, .inl (cI, 200, .inl (((ep_add (((ep_fol la fi si ex fr to 201 0 (xla, xfi, xsi, 0), ep_fill 24 0 xno).1.1), ((ep_fol la fi si ex fr to 201 0 (xla, xfi, xsi, 0), ep_fill 24 0 xno).1.2.1), ((ep_fol la fi si ex fr to 201 0 (xla, xfi, xsi, 0), ep_fill 24 0 xno).1.2.2.1), ((ep_fol la fi si ex fr to 201 0 (xla, xfi, xsi, 0), ep_fill 24 0 xno).1.2.2.2)) lab ((ep_first fi si ex n t0 (ep_blocks ln)).1) ln).2).2.2.1))), (x4, .inl (cI, 24, .inl (ep_tn wf 25 0 ((ep_fol la fi si ex fr to 201 0 (xla, xfi, xsi, 0), ep_fill 24 0 xno).2))))] H := hP
          have hD : va_D A [(n1, .inl (cI, 200, .inl la)), (n2, .inl (cI, 200, .inl fi)), (n3, .inl (cI, 200, .inl si)), (te, .inl (cI, n, .inl ((ep_first fi si ex n t0 (ep_blocks ln)).2))), (d0, .inr (3, [.ref pl, .ref tp, .ref wi, .ref pg, .ref te, .ref u_20.1.1, .ref u_20.1.2])), (pl, .inr (1, [.ref pb, .int u_20.2.1.2.1, .int u_20.2.1.2.2.1, .int u_20.2.1.2.2.2])), (pb, .inl (cB, nb, .inl u_20.2.1.1)), (tp, .inr (2, [.ref tb, .int u_20.2.2.1])), (tb, .inl (cB, nt, .inl tf)), (wi, .inl (cI, 24, .inl u_20.2.2.2.1)), (pg, .inl (cB, 4096, .inl u_20.2.2.2.2.1)), (nw, .inr (0, [.ref n1, .ref n2, .ref n3, .ref n4, .int u_20.2.2.2.2.2.1, .int u_20.2.2.2.2.2.2.1])), (n4, .inl (cI, 24, .inl u_20.2.2.2.2.2.2.2)), (nx, .inr (0, [.ref x1, .ref x2, .ref x3, .ref x4, .int (((ep_add (((ep_fol la fi si ex fr to 201 0 (xla, xfi, xsi, 0), ep_fill 24 0 xno).1.1), ((ep_fol la fi si ex fr to 201 0 (xla, xfi, xsi, 0), ep_fill 24 0 xno).1.2.1), ((ep_fol la fi si ex fr to 201 0 (xla, xfi, xsi, 0), ep_fill 24 0 xno).1.2.2.1), ((ep_fol la fi si ex fr to 201 0 (xla, xfi, xsi, 0), ep_fill 24 0 xno).1.2.2.2)) lab ((ep_first fi si ex n t0 (ep_blocks ln)).1) ln).2).2.2.2), .int (ch + 1)])), (x1, .inl (cI, 200, .inl (((ep_add (((ep_fol la fi si ex fr to 201 0 (xla, xfi, xsi, 0), ep_fill 24 0 xno).1.1), ((ep_fol la fi si ex fr to 201 0 (xla, xfi, xsi, 0), ep_fill 24 0 xno).1.2.1), ((ep_fol la fi si ex fr to 201 0 (xla, xfi, xsi, 0), ep_fill 24 0 xno).1.2.2.1), ((ep_fol la fi si ex fr to 201 0 (xla, xfi, xsi, 0), ep_fill 24 0 xno).1.2.2.2)) lab ((ep_first fi si ex n t0 (ep_blocks ln)).1) ln).2).1))), (x2, .inl (cI, 200, .inl (((ep_add (((ep_fol la fi si ex fr to 201 0 (xla, xfi, xsi, 0), ep_fill 24 0 xno).1.1), ((ep_fol la fi si ex fr to 201 0 (xla, xfi, xsi, 0), ep_fill 24 0 xno).1.2.1), ((ep_fol la fi si ex fr to 201 0 (xla, xfi, xsi, 0), ep_fill 24 0 xno).1.2.2.1), ((ep_fol la fi si ex fr to 201 0 (xla, xfi, xsi, 0), ep_fill 24 0 xno).1.2.2.2)) lab ((ep_first fi si ex n t0 (ep_blocks ln)).1) ln).2).2.1))), (x3, .inl (cI, 200, .inl (((ep_add (((ep_fol la fi si ex fr to 201 0 (xla, xfi, xsi, 0), ep_fill 24 0 xno).1.1), ((ep_fol la fi si ex fr to 201 0 (xla, xfi, xsi, 0), ep_fill 24 0 xno).1.2.1), ((ep_fol la fi si ex fr to 201 0 (xla, xfi, xsi, 0), ep_fill 24 0 xno).1.2.2.1), ((ep_fol la fi si ex fr to 201 0 (xla, xfi, xsi, 0), ep_fill 24 0 xno).1.2.2.2)) lab ((ep_first fi si ex n t0 (ep_blocks ln)).1) ln).2).2.2.1))), (x4, .inl (cI, 24, .inl (ep_tn wf 25 0 ((ep_fol la fi si ex fr to 201 0 (xla, xfi, xsi, 0), ep_fill 24 0 xno).2))))] := hD
          obtain ⟨rfl, rfl⟩ : r_19 = (ep_carry nw nx nb nt (pf, dn, wr, pw) tf ln wf pf2 ex ch no (((((ep_add (((ep_fol la fi si ex fr to 201 0 (xla, xfi, xsi, 0), ep_fill 24 0 xno).1.1), ((ep_fol la fi si ex fr to 201 0 (xla, xfi, xsi, 0), ep_fill 24 0 xno).1.2.1), ((ep_fol la fi si ex fr to 201 0 (xla, xfi, xsi, 0), ep_fill 24 0 xno).1.2.2.1), ((ep_fol la fi si ex fr to 201 0 (xla, xfi, xsi, 0), ep_fill 24 0 xno).1.2.2.2)) lab ((ep_first fi si ex n t0 (ep_blocks ln)).1) ln).2).1), (((ep_add (((ep_fol la fi si ex fr to 201 0 (xla, xfi, xsi, 0), ep_fill 24 0 xno).1.1), ((ep_fol la fi si ex fr to 201 0 (xla, xfi, xsi, 0), ep_fill 24 0 xno).1.2.1), ((ep_fol la fi si ex fr to 201 0 (xla, xfi, xsi, 0), ep_fill 24 0 xno).1.2.2.1), ((ep_fol la fi si ex fr to 201 0 (xla, xfi, xsi, 0), ep_fill 24 0 xno).1.2.2.2)) lab ((ep_first fi si ex n t0 (ep_blocks ln)).1) ln).2).2.1), (((ep_add (((ep_fol la fi si ex fr to 201 0 (xla, xfi, xsi, 0), ep_fill 24 0 xno).1.1), ((ep_fol la fi si ex fr to 201 0 (xla, xfi, xsi, 0), ep_fill 24 0 xno).1.2.1), ((ep_fol la fi si ex fr to 201 0 (xla, xfi, xsi, 0), ep_fill 24 0 xno).1.2.2.1), ((ep_fol la fi si ex fr to 201 0 (xla, xfi, xsi, 0), ep_fill 24 0 xno).1.2.2.2)) lab ((ep_first fi si ex n t0 (ep_blocks ln)).1) ln).2).2.2.1), (((ep_add (((ep_fol la fi si ex fr to 201 0 (xla, xfi, xsi, 0), ep_fill 24 0 xno).1.1), ((ep_fol la fi si ex fr to 201 0 (xla, xfi, xsi, 0), ep_fill 24 0 xno).1.2.1), ((ep_fol la fi si ex fr to 201 0 (xla, xfi, xsi, 0), ep_fill 24 0 xno).1.2.2.1), ((ep_fol la fi si ex fr to 201 0 (xla, xfi, xsi, 0), ep_fill 24 0 xno).1.2.2.2)) lab ((ep_first fi si ex n t0 (ep_blocks ln)).1) ln).2).2.2.2)), (ep_tn wf 25 0 ((ep_fol la fi si ex fr to 201 0 (xla, xfi, xsi, 0), ep_fill 24 0 xno).2)), (ch + 1)) ((ep_first fi si ex n t0 (ep_blocks ln)).1)).1 ∧ u_20 = (ep_carry nw nx nb nt (pf, dn, wr, pw) tf ln wf pf2 ex ch no (((((ep_add (((ep_fol la fi si ex fr to 201 0 (xla, xfi, xsi, 0), ep_fill 24 0 xno).1.1), ((ep_fol la fi si ex fr to 201 0 (xla, xfi, xsi, 0), ep_fill 24 0 xno).1.2.1), ((ep_fol la fi si ex fr to 201 0 (xla, xfi, xsi, 0), ep_fill 24 0 xno).1.2.2.1), ((ep_fol la fi si ex fr to 201 0 (xla, xfi, xsi, 0), ep_fill 24 0 xno).1.2.2.2)) lab ((ep_first fi si ex n t0 (ep_blocks ln)).1) ln).2).1), (((ep_add (((ep_fol la fi si ex fr to 201 0 (xla, xfi, xsi, 0), ep_fill 24 0 xno).1.1), ((ep_fol la fi si ex fr to 201 0 (xla, xfi, xsi, 0), ep_fill 24 0 xno).1.2.1), ((ep_fol la fi si ex fr to 201 0 (xla, xfi, xsi, 0), ep_fill 24 0 xno).1.2.2.1), ((ep_fol la fi si ex fr to 201 0 (xla, xfi, xsi, 0), ep_fill 24 0 xno).1.2.2.2)) lab ((ep_first fi si ex n t0 (ep_blocks ln)).1) ln).2).2.1), (((ep_add (((ep_fol la fi si ex fr to 201 0 (xla, xfi, xsi, 0), ep_fill 24 0 xno).1.1), ((ep_fol la fi si ex fr to 201 0 (xla, xfi, xsi, 0), ep_fill 24 0 xno).1.2.1), ((ep_fol la fi si ex fr to 201 0 (xla, xfi, xsi, 0), ep_fill 24 0 xno).1.2.2.1), ((ep_fol la fi si ex fr to 201 0 (xla, xfi, xsi, 0), ep_fill 24 0 xno).1.2.2.2)) lab ((ep_first fi si ex n t0 (ep_blocks ln)).1) ln).2).2.2.1), (((ep_add (((ep_fol la fi si ex fr to 201 0 (xla, xfi, xsi, 0), ep_fill 24 0 xno).1.1), ((ep_fol la fi si ex fr to 201 0 (xla, xfi, xsi, 0), ep_fill 24 0 xno).1.2.1), ((ep_fol la fi si ex fr to 201 0 (xla, xfi, xsi, 0), ep_fill 24 0 xno).1.2.2.1), ((ep_fol la fi si ex fr to 201 0 (xla, xfi, xsi, 0), ep_fill 24 0 xno).1.2.2.2)) lab ((ep_first fi si ex n t0 (ep_blocks ln)).1) ln).2).2.2.2)), (ep_tn wf 25 0 ((ep_fol la fi si ex fr to 201 0 (xla, xfi, xsi, 0), ep_fill 24 0 xno).2)), (ch + 1)) ((ep_first fi si ex n t0 (ep_blocks ln)).1)).2 := ⟨congrArg Prod.fst e_21, congrArg Prod.snd e_21⟩
          refine vx_ret ?_
          exact ey_iret (W1 := fun (u : ((Nat × Nat) × ep_P × Int32 × ep_F × ep_F × Int32 × Int32 × ep_F) × ep_F × ep_M) => [(d0, .inr (3, [.ref pl, .ref tp, .ref wi, .ref pg, .ref te, .ref u.1.1.1, .ref u.1.1.2])), (pl, .inr (1, [.ref pb, .int u.1.2.1.2.1, .int u.1.2.1.2.2.1, .int u.1.2.1.2.2.2])), (pb, .inl (cB, nb, .inl u.1.2.1.1)), (tp, .inr (2, [.ref tb, .int u.1.2.2.1])), (tb, .inl (cB, nt, .inl tf)), (wi, .inl (cI, 24, .inl u.1.2.2.2.1)), (pg, .inl (cB, 4096, .inl u.1.2.2.2.2.1)), (te, .inl (cI, n, .inl u.2.1)), (nw, .inr (0, [.ref n1, .ref n2, .ref n3, .ref n4, .int u.1.2.2.2.2.2.1, .int u.1.2.2.2.2.2.2.1])), (n1, .inl (cI, 200, .inl la)), (n2, .inl (cI, 200, .inl fi)), (n3, .inl (cI, 200, .inl si)), (n4, .inl (cI, 24, .inl u.1.2.2.2.2.2.2.2)), (nx, .inr (0, [.ref x1, .ref x2, .ref x3, .ref x4, .int u.2.2.1.2.2.2, .int u.2.2.2.2])), (x1, .inl (cI, 200, .inl u.2.2.1.1)), (x2, .inl (cI, 200, .inl u.2.2.1.2.1)), (x3, .inl (cI, 200, .inl u.2.2.1.2.2.1)), (x4, .inl (cI, 24, .inl u.2.2.2.1))]) hx hb hr hlocks hP hD hS (((((ep_carry nw nx nb nt (pf, dn, wr, pw) tf ln wf pf2 ex ch no (((((ep_add (((ep_fol la fi si ex fr to 201 0 (xla, xfi, xsi, 0), ep_fill 24 0 xno).1.1), ((ep_fol la fi si ex fr to 201 0 (xla, xfi, xsi, 0), ep_fill 24 0 xno).1.2.1), ((ep_fol la fi si ex fr to 201 0 (xla, xfi, xsi, 0), ep_fill 24 0 xno).1.2.2.1), ((ep_fol la fi si ex fr to 201 0 (xla, xfi, xsi, 0), ep_fill 24 0 xno).1.2.2.2)) lab ((ep_first fi si ex n t0 (ep_blocks ln)).1) ln).2).1), (((ep_add (((ep_fol la fi si ex fr to 201 0 (xla, xfi, xsi, 0), ep_fill 24 0 xno).1.1), ((ep_fol la fi si ex fr to 201 0 (xla, xfi, xsi, 0), ep_fill 24 0 xno).1.2.1), ((ep_fol la fi si ex fr to 201 0 (xla, xfi, xsi, 0), ep_fill 24 0 xno).1.2.2.1), ((ep_fol la fi si ex fr to 201 0 (xla, xfi, xsi, 0), ep_fill 24 0 xno).1.2.2.2)) lab ((ep_first fi si ex n t0 (ep_blocks ln)).1) ln).2).2.1), (((ep_add (((ep_fol la fi si ex fr to 201 0 (xla, xfi, xsi, 0), ep_fill 24 0 xno).1.1), ((ep_fol la fi si ex fr to 201 0 (xla, xfi, xsi, 0), ep_fill 24 0 xno).1.2.1), ((ep_fol la fi si ex fr to 201 0 (xla, xfi, xsi, 0), ep_fill 24 0 xno).1.2.2.1), ((ep_fol la fi si ex fr to 201 0 (xla, xfi, xsi, 0), ep_fill 24 0 xno).1.2.2.2)) lab ((ep_first fi si ex n t0 (ep_blocks ln)).1) ln).2).2.2.1), (((ep_add (((ep_fol la fi si ex fr to 201 0 (xla, xfi, xsi, 0), ep_fill 24 0 xno).1.1), ((ep_fol la fi si ex fr to 201 0 (xla, xfi, xsi, 0), ep_fill 24 0 xno).1.2.1), ((ep_fol la fi si ex fr to 201 0 (xla, xfi, xsi, 0), ep_fill 24 0 xno).1.2.2.1), ((ep_fol la fi si ex fr to 201 0 (xla, xfi, xsi, 0), ep_fill 24 0 xno).1.2.2.2)) lab ((ep_first fi si ex n t0 (ep_blocks ln)).1) ln).2).2.2.2)), (ep_tn wf 25 0 ((ep_fol la fi si ex fr to 201 0 (xla, xfi, xsi, 0), ep_fill 24 0 xno).2)), (ch + 1)) ((ep_first fi si ex n t0 (ep_blocks ln)).1)).2).1.1, ((ep_carry nw nx nb nt (pf, dn, wr, pw) tf ln wf pf2 ex ch no (((((ep_add (((ep_fol la fi si ex fr to 201 0 (xla, xfi, xsi, 0), ep_fill 24 0 xno).1.1), ((ep_fol la fi si ex fr to 201 0 (xla, xfi, xsi, 0), ep_fill 24 0 xno).1.2.1), ((ep_fol la fi si ex fr to 201 0 (xla, xfi, xsi, 0), ep_fill 24 0 xno).1.2.2.1), ((ep_fol la fi si ex fr to 201 0 (xla, xfi, xsi, 0), ep_fill 24 0 xno).1.2.2.2)) lab ((ep_first fi si ex n t0 (ep_blocks ln)).1) ln).2).1), (((ep_add (((ep_fol la fi si ex fr to 201 0 (xla, xfi, xsi, 0), ep_fill 24 0 xno).1.1), ((ep_fol la fi si ex fr to 201 0 (xla, xfi, xsi, 0), ep_fill 24 0 xno).1.2.1), ((ep_fol la fi si ex fr to 201 0 (xla, xfi, xsi, 0), ep_fill 24 0 xno).1.2.2.1), ((ep_fol la fi si ex fr to 201 0 (xla, xfi, xsi, 0), ep_fill 24 0 xno).1.2.2.2)) lab ((ep_first fi si ex n t0 (ep_blocks ln)).1) ln).2).2.1), (((ep_add (((ep_fol la fi si ex fr to 201 0 (xla, xfi, xsi, 0), ep_fill 24 0 xno).1.1), ((ep_fol la fi si ex fr to 201 0 (xla, xfi, xsi, 0), ep_fill 24 0 xno).1.2.1), ((ep_fol la fi si ex fr to 201 0 (xla, xfi, xsi, 0), ep_fill 24 0 xno).1.2.2.1), ((ep_fol la fi si ex fr to 201 0 (xla, xfi, xsi, 0), ep_fill 24 0 xno).1.2.2.2)) lab ((ep_first fi si ex n t0 (ep_blocks ln)).1) ln).2).2.2.1), (((ep_add (((ep_fol la fi si ex fr to 201 0 (xla, xfi, xsi, 0), ep_fill 24 0 xno).1.1), ((ep_fol la fi si ex fr to 201 0 (xla, xfi, xsi, 0), ep_fill 24 0 xno).1.2.1), ((ep_fol la fi si ex fr to 201 0 (xla, xfi, xsi, 0), ep_fill 24 0 xno).1.2.2.1), ((ep_fol la fi si ex fr to 201 0 (xla, xfi, xsi, 0), ep_fill 24 0 xno).1.2.2.2)) lab ((ep_first fi si ex n t0 (ep_blocks ln)).1) ln).2).2.2.2)), (ep_tn wf 25 0 ((ep_fol la fi si ex fr to 201 0 (xla, xfi, xsi, 0), ep_fill 24 0 xno).2)), (ch + 1)) ((ep_first fi si ex n t0 (ep_blocks ln)).1)).2).1.2), (((ep_carry nw nx nb nt (pf, dn, wr, pw) tf ln wf pf2 ex ch no (((((ep_add (((ep_fol la fi si ex fr to 201 0 (xla, xfi, xsi, 0), ep_fill 24 0 xno).1.1), ((ep_fol la fi si ex fr to 201 0 (xla, xfi, xsi, 0), ep_fill 24 0 xno).1.2.1), ((ep_fol la fi si ex fr to 201 0 (xla, xfi, xsi, 0), ep_fill 24 0 xno).1.2.2.1), ((ep_fol la fi si ex fr to 201 0 (xla, xfi, xsi, 0), ep_fill 24 0 xno).1.2.2.2)) lab ((ep_first fi si ex n t0 (ep_blocks ln)).1) ln).2).1), (((ep_add (((ep_fol la fi si ex fr to 201 0 (xla, xfi, xsi, 0), ep_fill 24 0 xno).1.1), ((ep_fol la fi si ex fr to 201 0 (xla, xfi, xsi, 0), ep_fill 24 0 xno).1.2.1), ((ep_fol la fi si ex fr to 201 0 (xla, xfi, xsi, 0), ep_fill 24 0 xno).1.2.2.1), ((ep_fol la fi si ex fr to 201 0 (xla, xfi, xsi, 0), ep_fill 24 0 xno).1.2.2.2)) lab ((ep_first fi si ex n t0 (ep_blocks ln)).1) ln).2).2.1), (((ep_add (((ep_fol la fi si ex fr to 201 0 (xla, xfi, xsi, 0), ep_fill 24 0 xno).1.1), ((ep_fol la fi si ex fr to 201 0 (xla, xfi, xsi, 0), ep_fill 24 0 xno).1.2.1), ((ep_fol la fi si ex fr to 201 0 (xla, xfi, xsi, 0), ep_fill 24 0 xno).1.2.2.1), ((ep_fol la fi si ex fr to 201 0 (xla, xfi, xsi, 0), ep_fill 24 0 xno).1.2.2.2)) lab ((ep_first fi si ex n t0 (ep_blocks ln)).1) ln).2).2.2.1), (((ep_add (((ep_fol la fi si ex fr to 201 0 (xla, xfi, xsi, 0), ep_fill 24 0 xno).1.1), ((ep_fol la fi si ex fr to 201 0 (xla, xfi, xsi, 0), ep_fill 24 0 xno).1.2.1), ((ep_fol la fi si ex fr to 201 0 (xla, xfi, xsi, 0), ep_fill 24 0 xno).1.2.2.1), ((ep_fol la fi si ex fr to 201 0 (xla, xfi, xsi, 0), ep_fill 24 0 xno).1.2.2.2)) lab ((ep_first fi si ex n t0 (ep_blocks ln)).1) ln).2).2.2.2)), (ep_tn wf 25 0 ((ep_fol la fi si ex fr to 201 0 (xla, xfi, xsi, 0), ep_fill 24 0 xno).2)), (ch + 1)) ((ep_first fi si ex n t0 (ep_blocks ln)).1)).2).2.1.1, ((ep_carry nw nx nb nt (pf, dn, wr, pw) tf ln wf pf2 ex ch no (((((ep_add (((ep_fol la fi si ex fr to 201 0 (xla, xfi, xsi, 0), ep_fill 24 0 xno).1.1), ((ep_fol la fi si ex fr to 201 0 (xla, xfi, xsi, 0), ep_fill 24 0 xno).1.2.1), ((ep_fol la fi si ex fr to 201 0 (xla, xfi, xsi, 0), ep_fill 24 0 xno).1.2.2.1), ((ep_fol la fi si ex fr to 201 0 (xla, xfi, xsi, 0), ep_fill 24 0 xno).1.2.2.2)) lab ((ep_first fi si ex n t0 (ep_blocks ln)).1) ln).2).1), (((ep_add (((ep_fol la fi si ex fr to 201 0 (xla, xfi, xsi, 0), ep_fill 24 0 xno).1.1), ((ep_fol la fi si ex fr to 201 0 (xla, xfi, xsi, 0), ep_fill 24 0 xno).1.2.1), ((ep_fol la fi si ex fr to 201 0 (xla, xfi, xsi, 0), ep_fill 24 0 xno).1.2.2.1), ((ep_fol la fi si ex fr to 201 0 (xla, xfi, xsi, 0), ep_fill 24 0 xno).1.2.2.2)) lab ((ep_first fi si ex n t0 (ep_blocks ln)).1) ln).2).2.1), (((ep_add (((ep_fol la fi si ex fr to 201 0 (xla, xfi, xsi, 0), ep_fill 24 0 xno).1.1), ((ep_fol la fi si ex fr to 201 0 (xla, xfi, xsi, 0), ep_fill 24 0 xno).1.2.1), ((ep_fol la fi si ex fr to 201 0 (xla, xfi, xsi, 0), ep_fill 24 0 xno).1.2.2.1), ((ep_fol la fi si ex fr to 201 0 (xla, xfi, xsi, 0), ep_fill 24 0 xno).1.2.2.2)) lab ((ep_first fi si ex n t0 (ep_blocks ln)).1) ln).2).2.2.1), (((ep_add (((ep_fol la fi si ex fr to 201 0 (xla, xfi, xsi, 0), ep_fill 24 0 xno).1.1), ((ep_fol la fi si ex fr to 201 0 (xla, xfi, xsi, 0), ep_fill 24 0 xno).1.2.1), ((ep_fol la fi si ex fr to 201 0 (xla, xfi, xsi, 0), ep_fill 24 0 xno).1.2.2.1), ((ep_fol la fi si ex fr to 201 0 (xla, xfi, xsi, 0), ep_fill 24 0 xno).1.2.2.2)) lab ((ep_first fi si ex n t0 (ep_blocks ln)).1) ln).2).2.2.2)), (ep_tn wf 25 0 ((ep_fol la fi si ex fr to 201 0 (xla, xfi, xsi, 0), ep_fill 24 0 xno).2)), (ch + 1)) ((ep_first fi si ex n t0 (ep_blocks ln)).1)).2).2.1.2.1, ((ep_carry nw nx nb nt (pf, dn, wr, pw) tf ln wf pf2 ex ch no (((((ep_add (((ep_fol la fi si ex fr to 201 0 (xla, xfi, xsi, 0), ep_fill 24 0 xno).1.1), ((ep_fol la fi si ex fr to 201 0 (xla, xfi, xsi, 0), ep_fill 24 0 xno).1.2.1), ((ep_fol la fi si ex fr to 201 0 (xla, xfi, xsi, 0), ep_fill 24 0 xno).1.2.2.1), ((ep_fol la fi si ex fr to 201 0 (xla, xfi, xsi, 0), ep_fill 24 0 xno).1.2.2.2)) lab ((ep_first fi si ex n t0 (ep_blocks ln)).1) ln).2).1), (((ep_add (((ep_fol la fi si ex fr to 201 0 (xla, xfi, xsi, 0), ep_fill 24 0 xno).1.1), ((ep_fol la fi si ex fr to 201 0 (xla, xfi, xsi, 0), ep_fill 24 0 xno).1.2.1), ((ep_fol la fi si ex fr to 201 0 (xla, xfi, xsi, 0), ep_fill 24 0 xno).1.2.2.1), ((ep_fol la fi si ex fr to 201 0 (xla, xfi, xsi, 0), ep_fill 24 0 xno).1.2.2.2)) lab ((ep_first fi si ex n t0 (ep_blocks ln)).1) ln).2).2.1), (((ep_add (((ep_fol la fi si ex fr to 201 0 (xla, xfi, xsi, 0), ep_fill 24 0 xno).1.1), ((ep_fol la fi si ex fr to 201 0 (xla, xfi, xsi, 0), ep_fill 24 0 xno).1.2.1), ((ep_fol la fi si ex fr to 201 0 (xla, xfi, xsi, 0), ep_fill 24 0 xno).1.2.2.1), ((ep_fol la fi si ex fr to 201 0 (xla, xfi, xsi, 0), ep_fill 24 0 xno).1.2.2.2)) lab ((ep_first fi si ex n t0 (ep_blocks ln)).1) ln).2).2.2.1), (((ep_add (((ep_fol la fi si ex fr to 201 0 (xla, xfi, xsi, 0), ep_fill 24 0 xno).1.1), ((ep_fol la fi si ex fr to 201 0 (xla, xfi, xsi, 0), ep_fill 24 0 xno).1.2.1), ((ep_fol la fi si ex fr to 201 0 (xla, xfi, xsi, 0), ep_fill 24 0 xno).1.2.2.1), ((ep_fol la fi si ex fr to 201 0 (xla, xfi, xsi, 0), ep_fill 24 0 xno).1.2.2.2)) lab ((ep_first fi si ex n t0 (ep_blocks ln)).1) ln).2).2.2.2)), (ep_tn wf 25 0 ((ep_fol la fi si ex fr to 201 0 (xla, xfi, xsi, 0), ep_fill 24 0 xno).2)), (ch + 1)) ((ep_first fi si ex n t0 (ep_blocks ln)).1)).2).2.1.2.2.1, ((ep_carry nw nx nb nt (pf, dn, wr, pw) tf ln wf pf2 ex ch no (((((ep_add (((ep_fol la fi si ex fr to 201 0 (xla, xfi, xsi, 0), ep_fill 24 0 xno).1.1), ((ep_fol la fi si ex fr to 201 0 (xla, xfi, xsi, 0), ep_fill 24 0 xno).1.2.1), ((ep_fol la fi si ex fr to 201 0 (xla, xfi, xsi, 0), ep_fill 24 0 xno).1.2.2.1), ((ep_fol la fi si ex fr to 201 0 (xla, xfi, xsi, 0), ep_fill 24 0 xno).1.2.2.2)) lab ((ep_first fi si ex n t0 (ep_blocks ln)).1) ln).2).1), (((ep_add (((ep_fol la fi si ex fr to 201 0 (xla, xfi, xsi, 0), ep_fill 24 0 xno).1.1), ((ep_fol la fi si ex fr to 201 0 (xla, xfi, xsi, 0), ep_fill 24 0 xno).1.2.1), ((ep_fol la fi si ex fr to 201 0 (xla, xfi, xsi, 0), ep_fill 24 0 xno).1.2.2.1), ((ep_fol la fi si ex fr to 201 0 (xla, xfi, xsi, 0), ep_fill 24 0 xno).1.2.2.2)) lab ((ep_first fi si ex n t0 (ep_blocks ln)).1) ln).2).2.1), (((ep_add (((ep_fol la fi si ex fr to 201 0 (xla, xfi, xsi, 0), ep_fill 24 0 xno).1.1), ((ep_fol la fi si ex fr to 201 0 (xla, xfi, xsi, 0), ep_fill 24 0 xno).1.2.1), ((ep_fol la fi si ex fr to 201 0 (xla, xfi, xsi, 0), ep_fill 24 0 xno).1.2.2.1), ((ep_fol la fi si ex fr to 201 0 (xla, xfi, xsi, 0), ep_fill 24 0 xno).1.2.2.2)) lab ((ep_first fi si ex n t0 (ep_blocks ln)).1) ln).2).2.2.1), (((ep_add (((ep_fol la fi si ex fr to 201 0 (xla, xfi, xsi, 0), ep_fill 24 0 xno).1.1), ((ep_fol la fi si ex fr to 201 0 (xla, xfi, xsi, 0), ep_fill 24 0 xno).1.2.1), ((ep_fol la fi si ex fr to 201 0 (xla, xfi, xsi, 0), ep_fill 24 0 xno).1.2.2.1), ((ep_fol la fi si ex fr to 201 0 (xla, xfi, xsi, 0), ep_fill 24 0 xno).1.2.2.2)) lab ((ep_first fi si ex n t0 (ep_blocks ln)).1) ln).2).2.2.2)), (ep_tn wf 25 0 ((ep_fol la fi si ex fr to 201 0 (xla, xfi, xsi, 0), ep_fill 24 0 xno).2)), (ch + 1)) ((ep_first fi si ex n t0 (ep_blocks ln)).1)).2).2.1.2.2.2), ((ep_carry nw nx nb nt (pf, dn, wr, pw) tf ln wf pf2 ex ch no (((((ep_add (((ep_fol la fi si ex fr to 201 0 (xla, xfi, xsi, 0), ep_fill 24 0 xno).1.1), ((ep_fol la fi si ex fr to 201 0 (xla, xfi, xsi, 0), ep_fill 24 0 xno).1.2.1), ((ep_fol la fi si ex fr to 201 0 (xla, xfi, xsi, 0), ep_fill 24 0 xno).1.2.2.1), ((ep_fol la fi si ex fr to 201 0 (xla, xfi, xsi, 0), ep_fill 24 0 xno).1.2.2.2)) lab ((ep_first fi si ex n t0 (ep_blocks ln)).1) ln).2).1), (((ep_add (((ep_fol la fi si ex fr to 201 0 (xla, xfi, xsi, 0), ep_fill 24 0 xno).1.1), ((ep_fol la fi si ex fr to 201 0 (xla, xfi, xsi, 0), ep_fill 24 0 xno).1.2.1), ((ep_fol la fi si ex fr to 201 0 (xla, xfi, xsi, 0), ep_fill 24 0 xno).1.2.2.1), ((ep_fol la fi si ex fr to 201 0 (xla, xfi, xsi, 0), ep_fill 24 0 xno).1.2.2.2)) lab ((ep_first fi si ex n t0 (ep_blocks ln)).1) ln).2).2.1), (((ep_add (((ep_fol la fi si ex fr to 201 0 (xla, xfi, xsi, 0), ep_fill 24 0 xno).1.1), ((ep_fol la fi si ex fr to 201 0 (xla, xfi, xsi, 0), ep_fill 24 0 xno).1.2.1), ((ep_fol la fi si ex fr to 201 0 (xla, xfi, xsi, 0), ep_fill 24 0 xno).1.2.2.1), ((ep_fol la fi si ex fr to 201 0 (xla, xfi, xsi, 0), ep_fill 24 0 xno).1.2.2.2)) lab ((ep_first fi si ex n t0 (ep_blocks ln)).1) ln).2).2.2.1), (((ep_add (((ep_fol la fi si ex fr to 201 0 (xla, xfi, xsi, 0), ep_fill 24 0 xno).1.1), ((ep_fol la fi si ex fr to 201 0 (xla, xfi, xsi, 0), ep_fill 24 0 xno).1.2.1), ((ep_fol la fi si ex fr to 201 0 (xla, xfi, xsi, 0), ep_fill 24 0 xno).1.2.2.1), ((ep_fol la fi si ex fr to 201 0 (xla, xfi, xsi, 0), ep_fill 24 0 xno).1.2.2.2)) lab ((ep_first fi si ex n t0 (ep_blocks ln)).1) ln).2).2.2.2)), (ep_tn wf 25 0 ((ep_fol la fi si ex fr to 201 0 (xla, xfi, xsi, 0), ep_fill 24 0 xno).2)), (ch + 1)) ((ep_first fi si ex n t0 (ep_blocks ln)).1)).2).2.2.1, ((ep_carry nw nx nb nt (pf, dn, wr, pw) tf ln wf pf2 ex ch no (((((ep_add (((ep_fol la fi si ex fr to 201 0 (xla, xfi, xsi, 0), ep_fill 24 0 xno).1.1), ((ep_fol la fi si ex fr to 201 0 (xla, xfi, xsi, 0), ep_fill 24 0 xno).1.2.1), ((ep_fol la fi si ex fr to 201 0 (xla, xfi, xsi, 0), ep_fill 24 0 xno).1.2.2.1), ((ep_fol la fi si ex fr to 201 0 (xla, xfi, xsi, 0), ep_fill 24 0 xno).1.2.2.2)) lab ((ep_first fi si ex n t0 (ep_blocks ln)).1) ln).2).1), (((ep_add (((ep_fol la fi si ex fr to 201 0 (xla, xfi, xsi, 0), ep_fill 24 0 xno).1.1), ((ep_fol la fi si ex fr to 201 0 (xla, xfi, xsi, 0), ep_fill 24 0 xno).1.2.1), ((ep_fol la fi si ex fr to 201 0 (xla, xfi, xsi, 0), ep_fill 24 0 xno).1.2.2.1), ((ep_fol la fi si ex fr to 201 0 (xla, xfi, xsi, 0), ep_fill 24 0 xno).1.2.2.2)) lab ((ep_first fi si ex n t0 (ep_blocks ln)).1) ln).2).2.1), (((ep_add (((ep_fol la fi si ex fr to 201 0 (xla, xfi, xsi, 0), ep_fill 24 0 xno).1.1), ((ep_fol la fi si ex fr to 201 0 (xla, xfi, xsi, 0), ep_fill 24 0 xno).1.2.1), ((ep_fol la fi si ex fr to 201 0 (xla, xfi, xsi, 0), ep_fill 24 0 xno).1.2.2.1), ((ep_fol la fi si ex fr to 201 0 (xla, xfi, xsi, 0), ep_fill 24 0 xno).1.2.2.2)) lab ((ep_first fi si ex n t0 (ep_blocks ln)).1) ln).2).2.2.1), (((ep_add (((ep_fol la fi si ex fr to 201 0 (xla, xfi, xsi, 0), ep_fill 24 0 xno).1.1), ((ep_fol la fi si ex fr to 201 0 (xla, xfi, xsi, 0), ep_fill 24 0 xno).1.2.1), ((ep_fol la fi si ex fr to 201 0 (xla, xfi, xsi, 0), ep_fill 24 0 xno).1.2.2.1), ((ep_fol la fi si ex fr to 201 0 (xla, xfi, xsi, 0), ep_fill 24 0 xno).1.2.2.2)) lab ((ep_first fi si ex n t0 (ep_blocks ln)).1) ln).2).2.2.2)), (ep_tn wf 25 0 ((ep_fol la fi si ex fr to 201 0 (xla, xfi, xsi, 0), ep_fill 24 0 xno).2)), (ch + 1)) ((ep_first fi si ex n t0 (ep_blocks ln)).1)).2).2.2.2.1, ((ep_carry nw nx nb nt (pf, dn, wr, pw) tf ln wf pf2 ex ch no (((((ep_add (((ep_fol la fi si ex fr to 201 0 (xla, xfi, xsi, 0), ep_fill 24 0 xno).1.1), ((ep_fol la fi si ex fr to 201 0 (xla, xfi, xsi, 0), ep_fill 24 0 xno).1.2.1), ((ep_fol la fi si ex fr to 201 0 (xla, xfi, xsi, 0), ep_fill 24 0 xno).1.2.2.1), ((ep_fol la fi si ex fr to 201 0 (xla, xfi, xsi, 0), ep_fill 24 0 xno).1.2.2.2)) lab ((ep_first fi si ex n t0 (ep_blocks ln)).1) ln).2).1), (((ep_add (((ep_fol la fi si ex fr to 201 0 (xla, xfi, xsi, 0), ep_fill 24 0 xno).1.1), ((ep_fol la fi si ex fr to 201 0 (xla, xfi, xsi, 0), ep_fill 24 0 xno).1.2.1), ((ep_fol la fi si ex fr to 201 0 (xla, xfi, xsi, 0), ep_fill 24 0 xno).1.2.2.1), ((ep_fol la fi si ex fr to 201 0 (xla, xfi, xsi, 0), ep_fill 24 0 xno).1.2.2.2)) lab ((ep_first fi si ex n t0 (ep_blocks ln)).1) ln).2).2.1), (((ep_add (((ep_fol la fi si ex fr to 201 0 (xla, xfi, xsi, 0), ep_fill 24 0 xno).1.1), ((ep_fol la fi si ex fr to 201 0 (xla, xfi, xsi, 0), ep_fill 24 0 xno).1.2.1), ((ep_fol la fi si ex fr to 201 0 (xla, xfi, xsi, 0), ep_fill 24 0 xno).1.2.2.1), ((ep_fol la fi si ex fr to 201 0 (xla, xfi, xsi, 0), ep_fill 24 0 xno).1.2.2.2)) lab ((ep_first fi si ex n t0 (ep_blocks ln)).1) ln).2).2.2.1), (((ep_add (((ep_fol la fi si ex fr to 201 0 (xla, xfi, xsi, 0), ep_fill 24 0 xno).1.1), ((ep_fol la fi si ex fr to 201 0 (xla, xfi, xsi, 0), ep_fill 24 0 xno).1.2.1), ((ep_fol la fi si ex fr to 201 0 (xla, xfi, xsi, 0), ep_fill 24 0 xno).1.2.2.1), ((ep_fol la fi si ex fr to 201 0 (xla, xfi, xsi, 0), ep_fill 24 0 xno).1.2.2.2)) lab ((ep_first fi si ex n t0 (ep_blocks ln)).1) ln).2).2.2.2)), (ep_tn wf 25 0 ((ep_fol la fi si ex fr to 201 0 (xla, xfi, xsi, 0), ep_fill 24 0 xno).2)), (ch + 1)) ((ep_first fi si ex n t0 (ep_blocks ln)).1)).2).2.2.2.2.1, ((ep_carry nw nx nb nt (pf, dn, wr, pw) tf ln wf pf2 ex ch no (((((ep_add (((ep_fol la fi si ex fr to 201 0 (xla, xfi, xsi, 0), ep_fill 24 0 xno).1.1), ((ep_fol la fi si ex fr to 201 0 (xla, xfi, xsi, 0), ep_fill 24 0 xno).1.2.1), ((ep_fol la fi si ex fr to 201 0 (xla, xfi, xsi, 0), ep_fill 24 0 xno).1.2.2.1), ((ep_fol la fi si ex fr to 201 0 (xla, xfi, xsi, 0), ep_fill 24 0 xno).1.2.2.2)) lab ((ep_first fi si ex n t0 (ep_blocks ln)).1) ln).2).1), (((ep_add (((ep_fol la fi si ex fr to 201 0 (xla, xfi, xsi, 0), ep_fill 24 0 xno).1.1), ((ep_fol la fi si ex fr to 201 0 (xla, xfi, xsi, 0), ep_fill 24 0 xno).1.2.1), ((ep_fol la fi si ex fr to 201 0 (xla, xfi, xsi, 0), ep_fill 24 0 xno).1.2.2.1), ((ep_fol la fi si ex fr to 201 0 (xla, xfi, xsi, 0), ep_fill 24 0 xno).1.2.2.2)) lab ((ep_first fi si ex n t0 (ep_blocks ln)).1) ln).2).2.1), (((ep_add (((ep_fol la fi si ex fr to 201 0 (xla, xfi, xsi, 0), ep_fill 24 0 xno).1.1), ((ep_fol la fi si ex fr to 201 0 (xla, xfi, xsi, 0), ep_fill 24 0 xno).1.2.1), ((ep_fol la fi si ex fr to 201 0 (xla, xfi, xsi, 0), ep_fill 24 0 xno).1.2.2.1), ((ep_fol la fi si ex fr to 201 0 (xla, xfi, xsi, 0), ep_fill 24 0 xno).1.2.2.2)) lab ((ep_first fi si ex n t0 (ep_blocks ln)).1) ln).2).2.2.1), (((ep_add (((ep_fol la fi si ex fr to 201 0 (xla, xfi, xsi, 0), ep_fill 24 0 xno).1.1), ((ep_fol la fi si ex fr to 201 0 (xla, xfi, xsi, 0), ep_fill 24 0 xno).1.2.1), ((ep_fol la fi si ex fr to 201 0 (xla, xfi, xsi, 0), ep_fill 24 0 xno).1.2.2.1), ((ep_fol la fi si ex fr to 201 0 (xla, xfi, xsi, 0), ep_fill 24 0 xno).1.2.2.2)) lab ((ep_first fi si ex n t0 (ep_blocks ln)).1) ln).2).2.2.2)), (ep_tn wf 25 0 ((ep_fol la fi si ex fr to 201 0 (xla, xfi, xsi, 0), ep_fill 24 0 xno).2)), (ch + 1)) ((ep_first fi si ex n t0 (ep_blocks ln)).1)).2).2.2.2.2.2.1, ((ep_carry nw nx nb nt (pf, dn, wr, pw) tf ln wf pf2 ex ch no (((((ep_add (((ep_fol la fi si ex fr to 201 0 (xla, xfi, xsi, 0), ep_fill 24 0 xno).1.1), ((ep_fol la fi si ex fr to 201 0 (xla, xfi, xsi, 0), ep_fill 24 0 xno).1.2.1), ((ep_fol la fi si ex fr to 201 0 (xla, xfi, xsi, 0), ep_fill 24 0 xno).1.2.2.1), ((ep_fol la fi si ex fr to 201 0 (xla, xfi, xsi, 0), ep_fill 24 0 xno).1.2.2.2)) lab ((ep_first fi si ex n t0 (ep_blocks ln)).1) ln).2).1), (((ep_add (((ep_fol la fi si ex fr to 201 0 (xla, xfi, xsi, 0), ep_fill 24 0 xno).1.1), ((ep_fol la fi si ex fr to 201 0 (xla, xfi, xsi, 0), ep_fill 24 0 xno).1.2.1), ((ep_fol la fi si ex fr to 201 0 (xla, xfi, xsi, 0), ep_fill 24 0 xno).1.2.2.1), ((ep_fol la fi si ex fr to 201 0 (xla, xfi, xsi, 0), ep_fill 24 0 xno).1.2.2.2)) lab ((ep_first fi si ex n t0 (ep_blocks ln)).1) ln).2).2.1), (((ep_add (((ep_fol la fi si ex fr to 201 0 (xla, xfi, xsi, 0), ep_fill 24 0 xno).1.1), ((ep_fol la fi si ex fr to 201 0 (xla, xfi, xsi, 0), ep_fill 24 0 xno).1.2.1), ((ep_fol la fi si ex fr to 201 0 (xla, xfi, xsi, 0), ep_fill 24 0 xno).1.2.2.1), ((ep_fol la fi si ex fr to 201 0 (xla, xfi, xsi, 0), ep_fill 24 0 xno).1.2.2.2)) lab ((ep_first fi si ex n t0 (ep_blocks ln)).1) ln).2).2.2.1), (((ep_add (((ep_fol la fi si ex fr to 201 0 (xla, xfi, xsi, 0), ep_fill 24 0 xno).1.1), ((ep_fol la fi si ex fr to 201 0 (xla, xfi, xsi, 0), ep_fill 24 0 xno).1.2.1), ((ep_fol la fi si ex fr to 201 0 (xla, xfi, xsi, 0), ep_fill 24 0 xno).1.2.2.1), ((ep_fol la fi si ex fr to 201 0 (xla, xfi, xsi, 0), ep_fill 24 0 xno).1.2.2.2)) lab ((ep_first fi si ex n t0 (ep_blocks ln)).1) ln).2).2.2.2)), (ep_tn wf 25 0 ((ep_fol la fi si ex fr to 201 0 (xla, xfi, xsi, 0), ep_fill 24 0 xno).2)), (ch + 1)) ((ep_first fi si ex n t0 (ep_blocks ln)).1)).2).2.2.2.2.2.2.1, ((ep_carry nw nx nb nt (pf, dn, wr, pw) tf ln wf pf2 ex ch no (((((ep_add (((ep_fol la fi si ex fr to 201 0 (xla, xfi, xsi, 0), ep_fill 24 0 xno).1.1), ((ep_fol la fi si ex fr to 201 0 (xla, xfi, xsi, 0), ep_fill 24 0 xno).1.2.1), ((ep_fol la fi si ex fr to 201 0 (xla, xfi, xsi, 0), ep_fill 24 0 xno).1.2.2.1), ((ep_fol la fi si ex fr to 201 0 (xla, xfi, xsi, 0), ep_fill 24 0 xno).1.2.2.2)) lab ((ep_first fi si ex n t0 (ep_blocks ln)).1) ln).2).1), (((ep_add (((ep_fol la fi si ex fr to 201 0 (xla, xfi, xsi, 0), ep_fill 24 0 xno).1.1), ((ep_fol la fi si ex fr to 201 0 (xla, xfi, xsi, 0), ep_fill 24 0 xno).1.2.1), ((ep_fol la fi si ex fr to 201 0 (xla, xfi, xsi, 0), ep_fill 24 0 xno).1.2.2.1), ((ep_fol la fi si ex fr to 201 0 (xla, xfi, xsi, 0), ep_fill 24 0 xno).1.2.2.2)) lab ((ep_first fi si ex n t0 (ep_blocks ln)).1) ln).2).2.1), (((ep_add (((ep_fol la fi si ex fr to 201 0 (xla, xfi, xsi, 0), ep_fill 24 0 xno).1.1), ((ep_fol la fi si ex fr to 201 0 (xla, xfi, xsi, 0), ep_fill 24 0 xno).1.2.1), ((ep_fol la fi si ex fr to 201 0 (xla, xfi, xsi, 0), ep_fill 24 0 xno).1.2.2.1), ((ep_fol la fi si ex fr to 201 0 (xla, xfi, xsi, 0), ep_fill 24 0 xno).1.2.2.2)) lab ((ep_first fi si ex n t0 (ep_blocks ln)).1) ln).2).2.2.1), (((ep_add (((ep_fol la fi si ex fr to 201 0 (xla, xfi, xsi, 0), ep_fill 24 0 xno).1.1), ((ep_fol la fi si ex fr to 201 0 (xla, xfi, xsi, 0), ep_fill 24 0 xno).1.2.1), ((ep_fol la fi si ex fr to 201 0 (xla, xfi, xsi, 0), ep_fill 24 0 xno).1.2.2.1), ((ep_fol la fi si ex fr to 201 0 (xla, xfi, xsi, 0), ep_fill 24 0 xno).1.2.2.2)) lab ((ep_first fi si ex n t0 (ep_blocks ln)).1) ln).2).2.2.2)), (ep_tn wf 25 0 ((ep_fol la fi si ex fr to 201 0 (xla, xfi, xsi, 0), ep_fill 24 0 xno).2)), (ch + 1)) ((ep_first fi si ex n t0 (ep_blocks ln)).1)).2).2.2.2.2.2.2.2), ((ep_first fi si ex n t0 (ep_blocks ln)).2), ((((ep_add (((ep_fol la fi si ex fr to 201 0 (xla, xfi, xsi, 0), ep_fill 24 0 xno).1.1), ((ep_fol la fi si ex fr to 201 0 (xla, xfi, xsi, 0), ep_fill 24 0 xno).1.2.1), ((ep_fol la fi si ex fr to 201 0 (xla, xfi, xsi, 0), ep_fill 24 0 xno).1.2.2.1), ((ep_fol la fi si ex fr to 201 0 (xla, xfi, xsi, 0), ep_fill 24 0 xno).1.2.2.2)) lab ((ep_first fi si ex n t0 (ep_blocks ln)).1) ln).2).1, ((ep_add (((ep_fol la fi si ex fr to 201 0 (xla, xfi, xsi, 0), ep_fill 24 0 xno).1.1), ((ep_fol la fi si ex fr to 201 0 (xla, xfi, xsi, 0), ep_fill 24 0 xno).1.2.1), ((ep_fol la fi si ex fr to 201 0 (xla, xfi, xsi, 0), ep_fill 24 0 xno).1.2.2.1), ((ep_fol la fi si ex fr to 201 0 (xla, xfi, xsi, 0), ep_fill 24 0 xno).1.2.2.2)) lab ((ep_first fi si ex n t0 (ep_blocks ln)).1) ln).2).2.1, ((ep_add (((ep_fol la fi si ex fr to 201 0 (xla, xfi, xsi, 0), ep_fill 24 0 xno).1.1), ((ep_fol la fi si ex fr to 201 0 (xla, xfi, xsi, 0), ep_fill 24 0 xno).1.2.1), ((ep_fol la fi si ex fr to 201 0 (xla, xfi, xsi, 0), ep_fill 24 0 xno).1.2.2.1), ((ep_fol la fi si ex fr to 201 0 (xla, xfi, xsi, 0), ep_fill 24 0 xno).1.2.2.2)) lab ((ep_first fi si ex n t0 (ep_blocks ln)).1) ln).2).2.2.1, ((ep_add (((ep_fol la fi si ex fr to 201 0 (xla, xfi, xsi, 0), ep_fill 24 0 xno).1.1), ((ep_fol la fi si ex fr to 201 0 (xla, xfi, xsi, 0), ep_fill 24 0 xno).1.2.1), ((ep_fol la fi si ex fr to 201 0 (xla, xfi, xsi, 0), ep_fill 24 0 xno).1.2.2.1), ((ep_fol la fi si ex fr to 201 0 (xla, xfi, xsi, 0), ep_fill 24 0 xno).1.2.2.2)) lab ((ep_first fi si ex n t0 (ep_blocks ln)).1) ln).2).2.2.2), ep_tn wf 25 0 ((ep_fol la fi si ex fr to 201 0 (xla, xfi, xsi, 0), ep_fill 24 0 xno).2), ch + 1)) [4, 5, 6, 7, 8, 9, 10, 3, 11, 0, 1, 2, 12, 13, 14, 15, 16, 17] rfl (by decide) (⟨by simp only [ep_kdown, ↓reduceIte, not_true_eq_false, not_false_eq_true, c_7], by simp only [ep_chg, ep_next, ↓reduceIte, not_true_eq_false, not_false_eq_true, c_54, c_76, c_96]⟩) d_D_change_108 (Nat.le_of_ble_eq_true rfl) (Nat.le_of_ble_eq_true rfl)
        · refine lv_bipush (v := (-2)) hx hb d_D_change_99 (by decide) ?_
          refine vx_ret ?_
          exact ey_iret (W1 := fun (u : ((Nat × Nat) × ep_P × Int32 × ep_F × ep_F × Int32 × Int32 × ep_F) × ep_F × ep_M) => [(d0, .inr (3, [.ref pl, .ref tp, .ref wi, .ref pg, .ref te, .ref u.1.1.1, .ref u.1.1.2])), (pl, .inr (1, [.ref pb, .int u.1.2.1.2.1, .int u.1.2.1.2.2.1, .int u.1.2.1.2.2.2])), (pb, .inl (cB, nb, .inl u.1.2.1.1)), (tp, .inr (2, [.ref tb, .int u.1.2.2.1])), (tb, .inl (cB, nt, .inl tf)), (wi, .inl (cI, 24, .inl u.1.2.2.2.1)), (pg, .inl (cB, 4096, .inl u.1.2.2.2.2.1)), (te, .inl (cI, n, .inl u.2.1)), (nw, .inr (0, [.ref n1, .ref n2, .ref n3, .ref n4, .int u.1.2.2.2.2.2.1, .int u.1.2.2.2.2.2.2.1])), (n1, .inl (cI, 200, .inl la)), (n2, .inl (cI, 200, .inl fi)), (n3, .inl (cI, 200, .inl si)), (n4, .inl (cI, 24, .inl u.1.2.2.2.2.2.2.2)), (nx, .inr (0, [.ref x1, .ref x2, .ref x3, .ref x4, .int u.2.2.1.2.2.2, .int u.2.2.2.2])), (x1, .inl (cI, 200, .inl u.2.2.1.1)), (x2, .inl (cI, 200, .inl u.2.2.1.2.1)), (x3, .inl (cI, 200, .inl u.2.2.1.2.2.1)), (x4, .inl (cI, 24, .inl u.2.2.2.1))]) hx hb hr hlocks hP hD hS (((nw, nx), (pf, dn, wr, pw), ln, wf, pf2, ex, ch, no), ((ep_first fi si ex n t0 (ep_blocks ln)).2), ((((ep_add (((ep_fol la fi si ex fr to 201 0 (xla, xfi, xsi, 0), ep_fill 24 0 xno).1.1), ((ep_fol la fi si ex fr to 201 0 (xla, xfi, xsi, 0), ep_fill 24 0 xno).1.2.1), ((ep_fol la fi si ex fr to 201 0 (xla, xfi, xsi, 0), ep_fill 24 0 xno).1.2.2.1), ((ep_fol la fi si ex fr to 201 0 (xla, xfi, xsi, 0), ep_fill 24 0 xno).1.2.2.2)) lab ((ep_first fi si ex n t0 (ep_blocks ln)).1) ln).2).1, ((ep_add (((ep_fol la fi si ex fr to 201 0 (xla, xfi, xsi, 0), ep_fill 24 0 xno).1.1), ((ep_fol la fi si ex fr to 201 0 (xla, xfi, xsi, 0), ep_fill 24 0 xno).1.2.1), ((ep_fol la fi si ex fr to 201 0 (xla, xfi, xsi, 0), ep_fill 24 0 xno).1.2.2.1), ((ep_fol la fi si ex fr to 201 0 (xla, xfi, xsi, 0), ep_fill 24 0 xno).1.2.2.2)) lab ((ep_first fi si ex n t0 (ep_blocks ln)).1) ln).2).2.1, ((ep_add (((ep_fol la fi si ex fr to 201 0 (xla, xfi, xsi, 0), ep_fill 24 0 xno).1.1), ((ep_fol la fi si ex fr to 201 0 (xla, xfi, xsi, 0), ep_fill 24 0 xno).1.2.1), ((ep_fol la fi si ex fr to 201 0 (xla, xfi, xsi, 0), ep_fill 24 0 xno).1.2.2.1), ((ep_fol la fi si ex fr to 201 0 (xla, xfi, xsi, 0), ep_fill 24 0 xno).1.2.2.2)) lab ((ep_first fi si ex n t0 (ep_blocks ln)).1) ln).2).2.2.1, ((ep_add (((ep_fol la fi si ex fr to 201 0 (xla, xfi, xsi, 0), ep_fill 24 0 xno).1.1), ((ep_fol la fi si ex fr to 201 0 (xla, xfi, xsi, 0), ep_fill 24 0 xno).1.2.1), ((ep_fol la fi si ex fr to 201 0 (xla, xfi, xsi, 0), ep_fill 24 0 xno).1.2.2.1), ((ep_fol la fi si ex fr to 201 0 (xla, xfi, xsi, 0), ep_fill 24 0 xno).1.2.2.2)) lab ((ep_first fi si ex n t0 (ep_blocks ln)).1) ln).2).2.2.2), (ep_tn wf 25 0 ((ep_fol la fi si ex fr to 201 0 (xla, xfi, xsi, 0), ep_fill 24 0 xno).2)), ch + 1)) [9, 0, 1, 2, 3, 8, 4, 13, 10, 6, 11, 12, 5, 14, 15, 16, 17, 7] rfl (by decide) (⟨by simp only [ep_kdown, ↓reduceIte, not_true_eq_false, not_false_eq_true, c_7], by simp only [ep_chg, ep_next, ↓reduceIte, not_true_eq_false, not_false_eq_true, c_54, c_76, c_96]⟩) d_D_change_101 (Nat.le_of_ble_eq_true rfl) (Nat.le_of_ble_eq_true rfl)
  · have hP9 : va_P (dC, dI) vwCl [(d0, .inr (3, [.ref pl, .ref tp, .ref wi, .ref pg, .ref te, .ref nw, .ref nx])), (pl, .inr (1, [.ref pb, .int dn, .int wr, .int pw])), (pb, .inl (cB, nb, .inl pf)), (tp, .inr (2, [.ref tb, .int ln])), (tb, .inl (cB, nt, .inl tf)), (wi, .inl (cI, 24, .inl wf)), (pg, .inl (cB, 4096, .inl pf2)), (te, .inl (cI, n, .inl t0)), (nw, .inr (0, [.ref n1, .ref n2, .ref n3, .ref n4, .int ex, .int ch])), (n1, .inl (cI, 200, .inl la)), (n2, .inl (cI, 200, .inl fi)), (n3, .inl (cI, 200, .inl si)), (n4, .inl (cI, 24, .inl no)), (nx, .inr (0, [.ref x1, .ref x2, .ref x3, .ref x4, .int xex, .int xch])), (x1, .inl (cI, 200, .inl xla)), (x2, .inl (cI, 200, .inl xfi)), (x3, .inl (cI, 200, .inl xsi)), (x4, .inl (cI, 24, .inl xno))] _ := ey_P (is := [0, 1, 2, 3, 4, 5, 6, 7, 8, 9, 10, 11, 12, 13, 14, 15, 16, 17]) hP rfl
    have hD9 : va_D A [(d0, .inr (3, [.ref pl, .ref tp, .ref wi, .ref pg, .ref te, .ref nw, .ref nx])), (pl, .inr (1, [.ref pb, .int dn, .int wr, .int pw])), (pb, .inl (cB, nb, .inl pf)), (tp, .inr (2, [.ref tb, .int ln])), (tb, .inl (cB, nt, .inl tf)), (wi, .inl (cI, 24, .inl wf)), (pg, .inl (cB, 4096, .inl pf2)), (te, .inl (cI, n, .inl t0)), (nw, .inr (0, [.ref n1, .ref n2, .ref n3, .ref n4, .int ex, .int ch])), (n1, .inl (cI, 200, .inl la)), (n2, .inl (cI, 200, .inl fi)), (n3, .inl (cI, 200, .inl si)), (n4, .inl (cI, 24, .inl no)), (nx, .inr (0, [.ref x1, .ref x2, .ref x3, .ref x4, .int xex, .int xch])), (x1, .inl (cI, 200, .inl xla)), (x2, .inl (cI, 200, .inl xfi)), (x3, .inl (cI, 200, .inl xsi)), (x4, .inl (cI, 24, .inl xno))] := hD.sub [0, 1, 2, 3, 4, 5, 6, 7, 8, 9, 10, 11, 12, 13, 14, 15, 16, 17] (by decide) rfl
    obtain ⟨sa9, hstr9⟩ := ex_str (k := 86) (t := "the store is down") hG (by decide +kernel)
    exact vx_throwS (names := ["java/lang/RuntimeException", "java/lang/Exception"]) hx hb hl9 hown (by decide +kernel) (by decide +kernel) (hts _ ew_260) (hts _ ew_23) hstr9 (ex_hatS hG hts) ex_goodS hZ.1 hZ.2 hS (by rw [hml]; exact hl.1) d_D_change_10 d_D_change_13 d_D_change_14 d_D_change_16 d_D_change_19 (fun x h9 => (hno x h9).elim) (Nat.le_of_ble_eq_true rfl) (Nat.le_of_ble_eq_true rfl) (Nat.le_of_ble_eq_true rfl) (Nat.le_of_ble_eq_true rfl) hlocks (fun t _ hz hk => ⟨(), trivial, ⟨Or.inr ⟨rfl, by simp only [ep_kdown, ↓reduceIte, not_true_eq_false, not_false_eq_true, c_7]⟩, (ey_keptX hP9 hD9 hS hz hk).1⟩, (ey_keptX hP9 hD9 hS hz hk).2⟩) hS.2.2 (Nat.le_of_ble_eq_true rfl) (Nat.le_of_ble_eq_true rfl)
end
section
set_option maxHeartbeats 4000000 in
set_option maxRecDepth 100000 in
theorem c_tp_init (l : Launch) (dC : Nat → ClassId) (dI : Nat → Nat → Nat) (cI cB cJ cZ : ClassId) (h0 : Nat) (x : Int32) (N : Nat) (hx0 : ¬ x * 4096 < 0) (hN : (x * 4096).toNatClampNeg = N) (hN2 : N ≤ 524288) : ey_Mv l y_Tp_init w_Tp_init { frames := 1, cells := 1, slots := 524288, locals := 20 } (dC, dI) vwCl (ey_kt cI cB cJ cZ) [.ref h0, .int x] [(h0, .inr (2, [.null, .int 0]))] (fun (_ : Nat) => True) (fun (u : Nat) => [(h0, .inr (2, [.ref u, .int 0])), (u, .inl (cB, N, .inl (fun _ => 0)))]) 1 524288 := by
  intro sz
  refine Met.ofW (cc := b_Tp_init) (maxL := 2) (ret := none) (by decide) rfl ?_
  intro p e s m args below meth c s₁ B hml hv
  obtain ⟨rfl, hsz, hP, hK, hG, hD0⟩ := hv
  have hx := B.exec
  have hb := B.bytes
  have hr := B.returns
  have hts := fun (w : Cond) (h : w ∈ ew_T) => atoms_spec (ws := w_Tp_init) B.pre w (List.mem_cons_of_mem _ h)
  have hown : s.vm.findClass R_Tp = some m.cls := findClass_of_methodNamed B.named
  have hlocks := B.notSynchronized
  have hin : meth.name = "<init>" := (name_of_methodNamed B.named B.method).1
  subst hsz
  have hD := hD0.self (sz := s.heap.size)
  generalize hAe : va_A [(h0, .inr (2, [.null, .int 0]))] s.heap.size = A at hD ⊢
  have hA : ∀ q : Nat, s.heap.size ≤ q → A q := fun q h => by rw [← hAe]; exact Or.inr h
  have hS : va_S A s.heap s.heap [] := va_S.rf
  have hP : va_P (dC, dI) vwCl [(h0, .inr (2, [.null, .int 0]))] s.heap := hP
  have hl := lv_entry ([.ref h0, .int x]) (n := 2) (Nat.le_of_ble_eq_true rfl)
  rw [lg_entry_eq]
  generalize (lg_sl ([.ref h0, .int x]) ++ List.replicate (2 - (lg_sl ([.ref h0, .int x])).length) Slot.unset).toArray = ls at hl ⊢
  have hl : lv_has ls 2 [(0, .ref h0), (1, .int x)] := hl
  refine lv_aload_n hx hb d_Tp_init_0 rfl (lv_at hl 0 rfl) ?_
  refine W.objInit hx hb hown (hts _ ew_67) (hts _ ew_32) (hts _ ew_33) rfl (by rw [hml]; exact hl.1) rfl d_Tp_init_1 (Nat.le_of_ble_eq_true rfl) (Nat.le_of_ble_eq_true rfl) ?_
  refine W.eq (g2 := F0 m 4 ls []) rfl ?_
  refine lv_aload_n hx hb d_Tp_init_4 rfl (lv_at hl 0 rfl) ?_
  refine lv_iload_n hx hb d_Tp_init_5 rfl (lv_at hl 1 rfl) ?_
  refine lv_sipush (v := 4096) hx hb d_Tp_init_6 (by decide) ?_
  refine lv_imul hx hb d_Tp_init_9 ?_
  refine va_newa (atype := .byte) (ty := .byte) (n := x * 4096) (N' := N) (a0 := (N, .inl (fun _ => 0))) hx hb (hts _ ew_61) rfl hK hP hD hS hA (fun _ => rfl) hx0 hN (show N * 1 ≤ 536870912 from by omega) (Nat.le_of_ble_eq_true rfl) (show 0 + N ≤ 524288 from by omega) d_Tp_init_10 (fun q1 cX H hK9 hP hD hS => ?_)
  obtain rfl : cB = cX := (ey_sameA (k1 := 1) (k2 := 4) hK9 rfl rfl).symm
  have hP : va_P (dC, dI) vwCl [(h0, .inr (2, [.null, .int 0])), (q1, .inl (cB, N, .inl (fun _ => 0)))] H := hP
  have hD : va_D A [(h0, .inr (2, [.null, .int 0])), (q1, .inl (cB, N, .inl (fun _ => 0)))] := hD
  refine va_putF (D := (dC, dI)) (ci := 2) (v := .ref q1) (ty := (.array .byte)) (C := R_Tp) (T := T_Tp) (N := 2) hx hb hts in_Tp t_Tp t_Tp_ok n_Tp hown hK hP hD hS 0 rfl rfl 0 (by decide) (hts _ ew_68) (fun _ h9 => h9) rfl hin rfl (by decide +kernel) rfl rfl (Nat.le_of_ble_eq_true rfl) d_Tp_init_12 (fun H locs hP hD hS => ?_)
  have hP : va_P (dC, dI) vwCl [(h0, .inr (2, [.ref q1, .int 0])), (q1, .inl (cB, N, .inl (fun _ => 0)))] H := hP
  have hD : va_D A [(h0, .inr (2, [.ref q1, .int 0])), (q1, .inl (cB, N, .inl (fun _ => 0)))] := hD
  exact ey_vret (W1 := fun (u : Nat) => [(h0, .inr (2, [.ref u, .int 0])), (u, .inl (cB, N, .inl (fun _ => 0)))]) hx hb hr hlocks hP hD hS q1 [0, 1] rfl (by decide) trivial d_Tp_init_15 (Nat.le_of_ble_eq_true rfl) (by omega)
set_option maxHeartbeats 4000000 in
set_option maxRecDepth 100000 in
theorem c_pl_init (l : Launch) (dC : Nat → ClassId) (dI : Nat → Nat → Nat) (cI cB cJ cZ : ClassId) (h0 : Nat) (x : Int32) (N : Nat) (hx0 : ¬ x * 4096 < 0) (hN : (x * 4096).toNatClampNeg = N) (hN2 : N ≤ 524288) : ey_Mv l y_P_init w_P_init { frames := 1, cells := 1, slots := 524288, locals := 20 } (dC, dI) vwCl (ey_kt cI cB cJ cZ) [.ref h0, .int x] [(h0, .inr (1, [.null, .int 0, .int 0, .int 0]))] (fun (_ : Nat) => True) (fun (u : Nat) => [(h0, .inr (1, [.ref u, .int 0, .int 0, .int (-1)])), (u, .inl (cB, N, .inl (fun _ => 0)))]) 1 524288 := by
  intro sz
  refine Met.ofW (cc := b_P_init) (maxL := 2) (ret := none) (by decide) rfl ?_
  intro p e s m args below meth c s₁ B hml hv
  obtain ⟨rfl, hsz, hP, hK, hG, hD0⟩ := hv
  have hx := B.exec
  have hb := B.bytes
  have hr := B.returns
  have hts := fun (w : Cond) (h : w ∈ ew_T) => atoms_spec (ws := w_P_init) B.pre w (List.mem_cons_of_mem _ h)
  have hown : s.vm.findClass R_P = some m.cls := findClass_of_methodNamed B.named
  have hlocks := B.notSynchronized
  have hin : meth.name = "<init>" := (name_of_methodNamed B.named B.method).1
  subst hsz
  have hD := hD0.self (sz := s.heap.size)
  generalize hAe : va_A [(h0, .inr (1, [.null, .int 0, .int 0, .int 0]))] s.heap.size = A at hD ⊢
  have hA : ∀ q : Nat, s.heap.size ≤ q → A q := fun q h => by rw [← hAe]; exact Or.inr h
  have hS : va_S A s.heap s.heap [] := va_S.rf
  have hP : va_P (dC, dI) vwCl [(h0, .inr (1, [.null, .int 0, .int 0, .int 0]))] s.heap := hP
  have hl := lv_entry ([.ref h0, .int x]) (n := 2) (Nat.le_of_ble_eq_true rfl)
  rw [lg_entry_eq]
  generalize (lg_sl ([.ref h0, .int x]) ++ List.replicate (2 - (lg_sl ([.ref h0, .int x])).length) Slot.unset).toArray = ls at hl ⊢
  have hl : lv_has ls 2 [(0, .ref h0), (1, .int x)] := hl
  refine lv_aload_n hx hb d_P_init_0 rfl (lv_at hl 0 rfl) ?_
  refine W.objInit hx hb hown (hts _ ew_45) (hts _ ew_32) (hts _ ew_33) rfl (by rw [hml]; exact hl.1) rfl d_P_init_1 (Nat.le_of_ble_eq_true rfl) (Nat.le_of_ble_eq_true rfl) ?_
  refine W.eq (g2 := F0 m 4 ls []) rfl ?_
  refine lv_aload_n hx hb d_P_init_4 rfl (lv_at hl 0 rfl) ?_
  refine lv_iload_n hx hb d_P_init_5 rfl (lv_at hl 1 rfl) ?_
  refine lv_sipush (v := 4096) hx hb d_P_init_6 (by decide) ?_
  refine lv_imul hx hb d_P_init_9 ?_
  refine va_newa (atype := .byte) (ty := .byte) (n := x * 4096) (N' := N) (a0 := (N, .inl (fun _ => 0))) hx hb (hts _ ew_61) rfl hK hP hD hS hA (fun _ => rfl) hx0 hN (show N * 1 ≤ 536870912 from by omega) (Nat.le_of_ble_eq_true rfl) (show 0 + N ≤ 524288 from by omega) d_P_init_10 (fun q1 cX H hK9 hP hD hS => ?_)
  obtain rfl : cB = cX := (ey_sameA (k1 := 1) (k2 := 4) hK9 rfl rfl).symm
  have hP : va_P (dC, dI) vwCl [(h0, .inr (1, [.null, .int 0, .int 0, .int 0])), (q1, .inl (cB, N, .inl (fun _ => 0)))] H := hP
  have hD : va_D A [(h0, .inr (1, [.null, .int 0, .int 0, .int 0])), (q1, .inl (cB, N, .inl (fun _ => 0)))] := hD
  refine va_putF (D := (dC, dI)) (ci := 1) (v := .ref q1) (ty := (.array .byte)) (C := R_P) (T := T_P) (N := 4) hx hb hts in_P t_P t_P_ok n_P hown hK hP hD hS 0 rfl rfl 0 (by decide) (hts _ ew_46) (fun _ h9 => h9) rfl hin rfl (by decide +kernel) rfl rfl (Nat.le_of_ble_eq_true rfl) d_P_init_12 (fun H locs hP hD hS => ?_)
  have hP : va_P (dC, dI) vwCl [(h0, .inr (1, [.ref q1, .int 0, .int 0, .int 0])), (q1, .inl (cB, N, .inl (fun _ => 0)))] H := hP
  have hD : va_D A [(h0, .inr (1, [.ref q1, .int 0, .int 0, .int 0])), (q1, .inl (cB, N, .inl (fun _ => 0)))] := hD
  refine lv_aload_n hx hb d_P_init_15 rfl (lv_at hl 0 rfl) ?_
  refine lv_iconst (v := (-1)) hx hb d_P_init_16 (by decide) ?_
  refine va_put (D := (dC, dI)) (ci := 1) (v := .int (-1)) (ty := .int) (C := R_P) (T := T_P) (N := 4) hx hb hts in_P t_P t_P_ok n_P hown hK hP hD hS 0 rfl rfl 3 (by decide) (hts _ ew_51) (fun _ h9 => h9) rfl (by decide +kernel) rfl rfl (Nat.le_of_ble_eq_true rfl) d_P_init_17 (fun H locs hP hD hS => ?_)
  have hP : va_P (dC, dI) vwCl [(h0, .inr (1, [.ref q1, .int 0, .int 0, .int (-1)])), (q1, .inl (cB, N, .inl (fun _ => 0)))] H := hP
  have hD : va_D A [(h0, .inr (1, [.ref q1, .int 0, .int 0, .int (-1)])), (q1, .inl (cB, N, .inl (fun _ => 0)))] := hD
  exact ey_vret (W1 := fun (u : Nat) => [(h0, .inr (1, [.ref u, .int 0, .int 0, .int (-1)])), (u, .inl (cB, N, .inl (fun _ => 0)))]) hx hb hr hlocks hP hD hS q1 [0, 1] rfl (by decide) trivial d_P_init_20 (Nat.le_of_ble_eq_true rfl) (by omega)
set_option maxHeartbeats 4000000 in
set_option maxRecDepth 100000 in
theorem c_mf_init (l : Launch) (dC : Nat → ClassId) (dI : Nat → Nat → Nat) (cI cB cJ cZ : ClassId) (h0 : Nat) : ey_Mv l y_M_init w_M_init { frames := 1, cells := 4, slots := 624, locals := 20 } (dC, dI) vwCl (ey_kt cI cB cJ cZ) [.ref h0] [(h0, .inr (0, [.null, .null, .null, .null, .int 0, .int 0]))] (fun (_ : Nat × Nat × Nat × Nat) => True) (fun (u : Nat × Nat × Nat × Nat) => [(h0, .inr (0, [.ref u.1, .ref u.2.1, .ref u.2.2.1, .ref u.2.2.2, .int 0, .int 0])), (u.1, .inl (cI, 200, .inl (fun _ => 0))), (u.2.1, .inl (cI, 200, .inl (fun _ => 0))), (u.2.2.1, .inl (cI, 200, .inl (fun _ => 0))), (u.2.2.2, .inl (cI, 24, .inl (fun _ => 0)))]) 4 624 := by
  intro sz
  refine Met.ofW (cc := b_M_init) (maxL := 1) (ret := none) (by decide) rfl ?_
  intro p e s m args below meth c s₁ B hml hv
  obtain ⟨rfl, hsz, hP, hK, hG, hD0⟩ := hv
  have hx := B.exec
  have hb := B.bytes
  have hr := B.returns
  have hts := fun (w : Cond) (h : w ∈ ew_T) => atoms_spec (ws := w_M_init) B.pre w (List.mem_cons_of_mem _ h)
  have hown : s.vm.findClass R_M = some m.cls := findClass_of_methodNamed B.named
  have hlocks := B.notSynchronized
  have hin : meth.name = "<init>" := (name_of_methodNamed B.named B.method).1
  subst hsz
  have hD := hD0.self (sz := s.heap.size)
  generalize hAe : va_A [(h0, .inr (0, [.null, .null, .null, .null, .int 0, .int 0]))] s.heap.size = A at hD ⊢
  have hA : ∀ q : Nat, s.heap.size ≤ q → A q := fun q h => by rw [← hAe]; exact Or.inr h
  have hS : va_S A s.heap s.heap [] := va_S.rf
  have hP : va_P (dC, dI) vwCl [(h0, .inr (0, [.null, .null, .null, .null, .int 0, .int 0]))] s.heap := hP
  have hl := lv_entry ([.ref h0]) (n := 1) (Nat.le_of_ble_eq_true rfl)
  rw [lg_entry_eq]
  generalize (lg_sl ([.ref h0]) ++ List.replicate (1 - (lg_sl ([.ref h0])).length) Slot.unset).toArray = ls at hl ⊢
  have hl : lv_has ls 1 [(0, .ref h0)] := hl
  refine lv_aload_n hx hb d_M_init_0 rfl (lv_at hl 0 rfl) ?_
  refine W.objInit hx hb hown (hts _ ew_82) (hts _ ew_32) (hts _ ew_33) rfl (by rw [hml]; exact hl.1) rfl d_M_init_1 (Nat.le_of_ble_eq_true rfl) (Nat.le_of_ble_eq_true rfl) ?_
  refine W.eq (g2 := F0 m 4 ls []) rfl ?_
  refine lv_aload_n hx hb d_M_init_4 rfl (lv_at hl 0 rfl) ?_
  refine lv_sipush (v := 200) hx hb d_M_init_5 (by decide) ?_
  refine va_newa (atype := .int) (ty := .int) (n := 200) (N' := 200) (a0 := (200, .inl (fun _ => 0))) hx hb (hts _ ew_108) rfl hK hP hD hS hA (fun _ => rfl) (by decide) (by decide) (by decide) (Nat.le_of_ble_eq_true rfl) (Nat.le_of_ble_eq_true rfl) d_M_init_8 (fun q1 cX H hK9 hP hD hS => ?_)
  obtain rfl : cI = cX := (ey_sameA (k1 := 0) (k2 := 4) hK9 rfl rfl).symm
  have hP : va_P (dC, dI) vwCl [(h0, .inr (0, [.null, .null, .null, .null, .int 0, .int 0])), (q1, .inl (cI, 200, .inl (fun _ => 0)))] H := hP
  have hD : va_D A [(h0, .inr (0, [.null, .null, .null, .null, .int 0, .int 0])), (q1, .inl (cI, 200, .inl (fun _ => 0)))] := hD
  refine va_putF (D := (dC, dI)) (ci := 0) (v := .ref q1) (ty := (.array .int)) (C := R_M) (T := T_M) (N := 6) hx hb hts in_M t_M t_M_ok n_M hown hK hP hD hS 0 rfl rfl 0 (by decide) (hts _ ew_83) (fun _ h9 => h9) rfl hin rfl (by decide +kernel) rfl rfl (Nat.le_of_ble_eq_true rfl) d_M_init_10 (fun H locs hP hD hS => ?_)
  have hP : va_P (dC, dI) vwCl [(h0, .inr (0, [.ref q1, .null, .null, .null, .int 0, .int 0])), (q1, .inl (cI, 200, .inl (fun _ => 0)))] H := hP
  have hD : va_D A [(h0, .inr (0, [.ref q1, .null, .null, .null, .int 0, .int 0])), (q1, .inl (cI, 200, .inl (fun _ => 0)))] := hD
  refine lv_aload_n hx hb d_M_init_13 rfl (lv_at hl 0 rfl) ?_
  refine lv_sipush (v := 200) hx hb d_M_init_14 (by decide) ?_
  refine va_newa (atype := .int) (ty := .int) (n := 200) (N' := 200) (a0 := (200, .inl (fun _ => 0))) hx hb (hts _ ew_108) rfl hK hP hD hS hA (fun _ => rfl) (by decide) (by decide) (by decide) (Nat.le_of_ble_eq_true rfl) (Nat.le_of_ble_eq_true rfl) d_M_init_17 (fun q2 cX H hK9 hP hD hS => ?_)
  obtain rfl : cI = cX := (ey_sameA (k1 := 0) (k2 := 4) hK9 rfl rfl).symm
  have hP : va_P (dC, dI) vwCl [(h0, .inr (0, [.ref q1, .null, .null, .null, .int 0, .int 0])), (q1, .inl (cI, 200, .inl (fun _ => 0))), (q2, .inl (cI, 200, .inl (fun _ => 0)))] H := hP
  have hD : va_D A [(h0, .inr (0, [.ref q1, .null, .null, .null, .int 0, .int 0])), (q1, .inl (cI, 200, .inl (fun _ => 0))), (q2, .inl (cI, 200, .inl (fun _ => 0)))] := hD
  refine va_putF (D := (dC, dI)) (ci := 0) (v := .ref q2) (ty := (.array .int)) (C := R_M) (T := T_M) (N := 6) hx hb hts in_M t_M t_M_ok n_M hown hK hP hD hS 0 rfl rfl 1 (by decide) (hts _ ew_85) (fun _ h9 => h9) rfl hin rfl (by decide +kernel) rfl rfl (Nat.le_of_ble_eq_true rfl) d_M_init_19 (fun H locs hP hD hS => ?_)
  have hP : va_P (dC, dI) vwCl [(h0, .inr (0, [.ref q1, .ref q2, .null, .null, .int 0, .int 0])), (q1, .inl (cI, 200, .inl (fun _ => 0))), (q2, .inl (cI, 200, .inl (fun _ => 0)))] H := hP
  have hD : va_D A [(h0, .inr (0, [.ref q1, .ref q2, .null, .null, .int 0, .int 0])), (q1, .inl (cI, 200, .inl (fun _ => 0))), (q2, .inl (cI, 200, .inl (fun _ => 0)))] := hD
  refine lv_aload_n hx hb d_M_init_22 rfl (lv_at hl 0 rfl) ?_
  refine lv_sipush (v := 200) hx hb d_M_init_23 (by decide) ?_
  refine va_newa (atype := .int) (ty := .int) (n := 200) (N' := 200) (a0 := (200, .inl (fun _ => 0))) hx hb (hts _ ew_108) rfl hK hP hD hS hA (fun _ => rfl) (by decide) (by decide) (by decide) (Nat.le_of_ble_eq_true rfl) (Nat.le_of_ble_eq_true rfl) d_M_init_26 (fun q3 cX H hK9 hP hD hS => ?_)
  obtain rfl : cI = cX := (ey_sameA (k1 := 0) (k2 := 4) hK9 rfl rfl).symm
  have hP : va_P (dC, dI) vwCl [(h0, .inr (0, [.ref q1, .ref q2, .null, .null, .int 0, .int 0])), (q1, .inl (cI, 200, .inl (fun _ => 0))), (q2, .inl (cI, 200, .inl (fun _ => 0))), (q3, .inl (cI, 200, .inl (fun _ => 0)))] H := hP
  have hD : va_D A [(h0, .inr (0, [.ref q1, .ref q2, .null, .null, .int 0, .int 0])), (q1, .inl (cI, 200, .inl (fun _ => 0))), (q2, .inl (cI, 200, .inl (fun _ => 0))), (q3, .inl (cI, 200, .inl (fun _ => 0)))] := hD
  refine va_putF (D := (dC, dI)) (ci := 0) (v := .ref q3) (ty := (.array .int)) (C := R_M) (T := T_M) (N := 6) hx hb hts in_M t_M t_M_ok n_M hown hK hP hD hS 0 rfl rfl 2 (by decide) (hts _ ew_87) (fun _ h9 => h9) rfl hin rfl (by decide +kernel) rfl rfl (Nat.le_of_ble_eq_true rfl) d_M_init_28 (fun H locs hP hD hS => ?_)
  have hP : va_P (dC, dI) vwCl [(h0, .inr (0, [.ref q1, .ref q2, .ref q3, .null, .int 0, .int 0])), (q1, .inl (cI, 200, .inl (fun _ => 0))), (q2, .inl (cI, 200, .inl (fun _ => 0))), (q3, .inl (cI, 200, .inl (fun _ => 0)))] H := hP
  have hD : va_D A [(h0, .inr (0, [.ref q1, .ref q2, .ref q3, .null, .int 0, .int 0])), (q1, .inl (cI, 200, .inl (fun _ => 0))), (q2, .inl (cI, 200, .inl (fun _ => 0))), (q3, .inl (cI, 200, .inl (fun _ => 0)))] := hD
  refine lv_aload_n hx hb d_M_init_31 rfl (lv_at hl 0 rfl) ?_
  refine lv_bipush (v := 24) hx hb d_M_init_32 (by decide) ?_
  refine va_newa (atype := .int) (ty := .int) (n := 24) (N' := 24) (a0 := (24, .inl (fun _ => 0))) hx hb (hts _ ew_108) rfl hK hP hD hS hA (fun _ => rfl) (by decide) (by decide) (by decide) (Nat.le_of_ble_eq_true rfl) (Nat.le_of_ble_eq_true rfl) d_M_init_34 (fun q4 cX H hK9 hP hD hS => ?_)
  obtain rfl : cI = cX := (ey_sameA (k1 := 0) (k2 := 4) hK9 rfl rfl).symm
  have hP : va_P (dC, dI) vwCl [(h0, .inr (0, [.ref q1, .ref q2, .ref q3, .null, .int 0, .int 0])), (q1, .inl (cI, 200, .inl (fun _ => 0))), (q2, .inl (cI, 200, .inl (fun _ => 0))), (q3, .inl (cI, 200, .inl (fun _ => 0))), (q4, .inl (cI, 24, .inl (fun _ => 0)))] H := hP
  have hD : va_D A [(h0, .inr (0, [.ref q1, .ref q2, .ref q3, .null, .int 0, .int 0])), (q1, .inl (cI, 200, .inl (fun _ => 0))), (q2, .inl (cI, 200, .inl (fun _ => 0))), (q3, .inl (cI, 200, .inl (fun _ => 0))), (q4, .inl (cI, 24, .inl (fun _ => 0)))] := hD
  refine va_putF (D := (dC, dI)) (ci := 0) (v := .ref q4) (ty := (.array .int)) (C := R_M) (T := T_M) (N := 6) hx hb hts in_M t_M t_M_ok n_M hown hK hP hD hS 0 rfl rfl 3 (by decide) (hts _ ew_89) (fun _ h9 => h9) rfl hin rfl (by decide +kernel) rfl rfl (Nat.le_of_ble_eq_true rfl) d_M_init_36 (fun H locs hP hD hS => ?_)
  have hP : va_P (dC, dI) vwCl [(h0, .inr (0, [.ref q1, .ref q2, .ref q3, .ref q4, .int 0, .int 0])), (q1, .inl (cI, 200, .inl (fun _ => 0))), (q2, .inl (cI, 200, .inl (fun _ => 0))), (q3, .inl (cI, 200, .inl (fun _ => 0))), (q4, .inl (cI, 24, .inl (fun _ => 0)))] H := hP
  have hD : va_D A [(h0, .inr (0, [.ref q1, .ref q2, .ref q3, .ref q4, .int 0, .int 0])), (q1, .inl (cI, 200, .inl (fun _ => 0))), (q2, .inl (cI, 200, .inl (fun _ => 0))), (q3, .inl (cI, 200, .inl (fun _ => 0))), (q4, .inl (cI, 24, .inl (fun _ => 0)))] := hD
  exact ey_vret (W1 := fun (u : Nat × Nat × Nat × Nat) => [(h0, .inr (0, [.ref u.1, .ref u.2.1, .ref u.2.2.1, .ref u.2.2.2, .int 0, .int 0])), (u.1, .inl (cI, 200, .inl (fun _ => 0))), (u.2.1, .inl (cI, 200, .inl (fun _ => 0))), (u.2.2.1, .inl (cI, 200, .inl (fun _ => 0))), (u.2.2.2, .inl (cI, 24, .inl (fun _ => 0)))]) hx hb hr hlocks hP hD hS (q1, q2, q3, q4) [0, 1, 2, 3, 4] rfl (by decide) trivial d_M_init_39 (Nat.le_of_ble_eq_true rfl) (Nat.le_of_ble_eq_true rfl)
set_option maxHeartbeats 4000000 in
set_option maxRecDepth 100000 in
theorem c_ed_init (l : Launch) (dC : Nat → ClassId) (dI : Nat → Nat → Nat) (cI cB cJ cZ : ClassId) (d0 : Nat) (x : Int32) : ey_Mv l y_D_init w_D_init { frames := 2, cells := 17, slots := 1060000, locals := 45 } (dC, dI) vwCl (ey_kt cI cB cJ cZ) [.ref d0, .int x] [(d0, .inr (3, [.null, .null, .null, .null, .null, .null, .null]))] (fun (_ : Nat × Nat × Nat × Nat × Nat × Nat × Nat × Nat × Nat × Nat × Nat × Nat × Nat × Nat × Nat × Nat × Nat) => True) (fun (u : Nat × Nat × Nat × Nat × Nat × Nat × Nat × Nat × Nat × Nat × Nat × Nat × Nat × Nat × Nat × Nat × Nat) => [(d0, .inr (3, [.ref u.1, .ref u.2.2.1, .ref u.2.2.2.2.1, .ref u.2.2.2.2.2.1, .ref u.2.2.2.2.2.2.1, .ref u.2.2.2.2.2.2.2.1, .ref u.2.2.2.2.2.2.2.2.2.2.2.2.1])), (u.1, .inr (1, [.ref u.2.1, .int 0, .int 0, .int (-1)])), (u.2.1, .inl (cB, (ep_size x * 4096), .inl (fun _ => 0))), (u.2.2.1, .inr (2, [.ref u.2.2.2.1, .int 0])), (u.2.2.2.1, .inl (cB, (ep_size x * 4096), .inl (fun _ => 0))), (u.2.2.2.2.1, .inl (cI, 24, .inl (fun _ => 0))), (u.2.2.2.2.2.1, .inl (cB, 4096, .inl (fun _ => 0))), (u.2.2.2.2.2.2.1, .inl (cI, (ep_size x), .inl (fun _ => 0))), (u.2.2.2.2.2.2.2.1, .inr (0, [.ref u.2.2.2.2.2.2.2.2.1, .ref u.2.2.2.2.2.2.2.2.2.1, .ref u.2.2.2.2.2.2.2.2.2.2.1, .ref u.2.2.2.2.2.2.2.2.2.2.2.1, .int 0, .int 0])), (u.2.2.2.2.2.2.2.2.1, .inl (cI, 200, .inl (fun _ => 0))), (u.2.2.2.2.2.2.2.2.2.1, .inl (cI, 200, .inl (fun _ => 0))), (u.2.2.2.2.2.2.2.2.2.2.1, .inl (cI, 200, .inl (fun _ => 0))), (u.2.2.2.2.2.2.2.2.2.2.2.1, .inl (cI, 24, .inl (fun _ => 0))), (u.2.2.2.2.2.2.2.2.2.2.2.2.1, .inr (0, [.ref u.2.2.2.2.2.2.2.2.2.2.2.2.2.1, .ref u.2.2.2.2.2.2.2.2.2.2.2.2.2.2.1, .ref u.2.2.2.2.2.2.2.2.2.2.2.2.2.2.2.1, .ref u.2.2.2.2.2.2.2.2.2.2.2.2.2.2.2.2, .int 0, .int 0])), (u.2.2.2.2.2.2.2.2.2.2.2.2.2.1, .inl (cI, 200, .inl (fun _ => 0))), (u.2.2.2.2.2.2.2.2.2.2.2.2.2.2.1, .inl (cI, 200, .inl (fun _ => 0))), (u.2.2.2.2.2.2.2.2.2.2.2.2.2.2.2.1, .inl (cI, 200, .inl (fun _ => 0))), (u.2.2.2.2.2.2.2.2.2.2.2.2.2.2.2.2, .inl (cI, 24, .inl (fun _ => 0)))]) 17 1060000 := by
  intro sz
  refine Met.ofW (cc := b_D_init) (maxL := 3) (ret := none) (by decide) rfl ?_
  intro p e s m args below meth c s₁ B hml hv
  obtain ⟨rfl, hsz, hP, hK, hG, hD0⟩ := hv
  have hx := B.exec
  have hb := B.bytes
  have hr := B.returns
  have hts := fun (w : Cond) (h : w ∈ ew_T) => atoms_spec (ws := w_D_init) B.pre w (List.mem_cons_of_mem _ h)
  have hown : s.vm.findClass R_D = some m.cls := findClass_of_methodNamed B.named
  have hlocks := B.notSynchronized
  have hin : meth.name = "<init>" := (name_of_methodNamed B.named B.method).1
  subst hsz
  have hD := hD0.self (sz := s.heap.size)
  generalize hAe : va_A [(d0, .inr (3, [.null, .null, .null, .null, .null, .null, .null]))] s.heap.size = A at hD ⊢
  have hA : ∀ q : Nat, s.heap.size ≤ q → A q := fun q h => by rw [← hAe]; exact Or.inr h
  have hS : va_S A s.heap s.heap [] := va_S.rf
  have hP : va_P (dC, dI) vwCl [(d0, .inr (3, [.null, .null, .null, .null, .null, .null, .null]))] s.heap := hP
  have hl := lv_entry ([.ref d0, .int x]) (n := 3) (Nat.le_of_ble_eq_true rfl)
  rw [lg_entry_eq]
  generalize (lg_sl ([.ref d0, .int x]) ++ List.replicate (3 - (lg_sl ([.ref d0, .int x])).length) Slot.unset).toArray = ls at hl ⊢
  have hl : lv_has ls 3 [(0, .ref d0), (1, .int x)] := hl
  refine lv_aload_n hx hb d_D_init_0 rfl (lv_at hl 0 rfl) ?_
  refine W.objInit hx hb hown (hts _ ew_31) (hts _ ew_32) (hts _ ew_33) rfl (by rw [hml]; exact hl.1) rfl d_D_init_1 (Nat.le_of_ble_eq_true rfl) (Nat.le_of_ble_eq_true rfl) ?_
  refine W.eq (g2 := F0 m 4 ls []) rfl ?_
  refine lv_bipush (v := 8) hx hb d_D_init_4 (by decide) ?_
  refine lv_sipush (v := 128) hx hb d_D_init_6 (by decide) ?_
  refine lv_iload_n hx hb d_D_init_9 rfl (lv_at hl 1 rfl) ?_
  refine va_mmin hx hb (by rw [hml]; exact hl.1.symm) hown (hts _ ew_34) (hts _ ew_35) (hts _ ew_14) (hts _ ew_36) (Nat.le_of_ble_eq_true rfl) (Nat.le_of_ble_eq_true rfl) (Nat.le_of_ble_eq_true rfl) (show 0 ≤ 1060000 from by omega) d_D_init_10 ?_
  refine va_mmax hx hb (by rw [hml]; exact hl.1.symm) hown (hts _ ew_37) (hts _ ew_38) (hts _ ew_14) (hts _ ew_39) (Nat.le_of_ble_eq_true rfl) (Nat.le_of_ble_eq_true rfl) (Nat.le_of_ble_eq_true rfl) (show 0 ≤ 1060000 from by omega) d_D_init_13 ?_
  refine lv_topi (fun sz9 esz9 => ?_)
  refine lv_istore_n (lv' := [(2, .int sz9), (0, .ref d0), (1, .int x)]) hx hb d_D_init_16 rfl hl (by decide) rfl (fun ls hl => ?_)
  obtain ⟨esz, hs8, hs128⟩ := ey_size x
  rw [esz] at esz9
  subst esz9
  refine lv_aload_n hx hb d_D_init_17 rfl (lv_at hl 1 rfl) ?_
  refine va_new (ci := 1) (fs := [.null, .int 0, .int 0, .int 0]) (C := R_P) (T := T_P) (N := 4) hx hb hts in_P t_P t_P_ok hown (hts _ ew_40) (hts _ ew_41) (hts _ ew_15) hK hP hD hS hA rfl (fun j hj => by rcases (show j = 0 ∨ j = 1 ∨ j = 2 ∨ j = 3 by omega) with rfl | rfl | rfl | rfl <;> rfl) (Nat.le_of_ble_eq_true rfl) (show 0 + 4 ≤ 1060000 from by omega) d_D_init_18 (fun pl H hP hD hS => ?_)
  have hP : va_P (dC, dI) vwCl [(d0, .inr (3, [.null, .null, .null, .null, .null, .null, .null])), (pl, .inr (1, [.null, .int 0, .int 0, .int 0]))] H := hP
  have hD : va_D A [(d0, .inr (3, [.null, .null, .null, .null, .null, .null, .null])), (pl, .inr (1, [.null, .int 0, .int 0, .int 0]))] := hD
  refine lv_dup hx hb d_D_init_21 rfl ?_
  refine lv_iload_n hx hb d_D_init_22 rfl (lv_at hl 0 rfl) ?_
  refine ey_Iv (Wc := [(pl, .inr (1, [.null, .int 0, .int 0, .int 0]))]) (wr := [(d0, .inr (3, [.null, .null, .null, .null, .null, .null, .null]))]) (As := [.int (nI (ep_size x))]) (rest := [.ref pl, .ref d0]) ⟨hx, hb, hml, hown, hts⟩ (c_pl_init l dC dI cI cB cJ cZ pl (nI (ep_size x)) (ep_size x * 4096) (ey_sz1 hs128) (ey_sz2 hs128) (by omega)) (cwI 1 hts g_P_init rfl rfl rfl (hts _ ew_15) (hts _ ew_42) (hts _ ew_43) rfl (by decide +kernel) ⟨Nat.le_of_ble_eq_true rfl, Nat.le_of_ble_eq_true rfl⟩) hK hG hP hD hS hA [1] [0] rfl rfl (by decide) (by decide) (by decide) rfl hl.1 rfl (Nat.le_of_ble_eq_true rfl) d_D_init_23 ⟨Nat.le_of_ble_eq_true rfl, (show 4 + 524288 ≤ 1060000 from by omega)⟩ (fun u_2 H locs e_3 hP hD hS => ?_)
  have hP : va_P (dC, dI) vwCl [(d0, .inr (3, [.null, .null, .null, .null, .null, .null, .null])), (pl, .inr (1, [.ref u_2, .int 0, .int 0, .int (-1)])), (u_2, .inl (cB, ep_size x * 4096, .inl (fun _ => 0)))] H := hP
  have hD : va_D A [(d0, .inr (3, [.null, .null, .null, .null, .null, .null, .null])), (pl, .inr (1, [.ref u_2, .int 0, .int 0, .int (-1)])), (u_2, .inl (cB, ep_size x * 4096, .inl (fun _ => 0)))] := hD
  obtain ⟨pb, rfl⟩ : ∃ z, z = u_2 := ⟨_, rfl⟩
  have hP : va_P (dC, dI) vwCl [(d0, .inr (3, [.null, .null, .null, .null, .null, .null, .null])), (pl, .inr (1, [.ref pb, .int 0, .int 0, .int (-1)])), (pb, .inl (cB, ep_size x * 4096, .inl (fun _ => 0)))] H := hP
  have hD : va_D A [(d0, .inr (3, [.null, .null, .null, .null, .null, .null, .null])), (pl, .inr (1, [.ref pb, .int 0, .int 0, .int (-1)])), (pb, .inl (cB, ep_size x * 4096, .inl (fun _ => 0)))] := hD
  refine va_putF (D := (dC, dI)) (ci := 3) (v := .ref pl) (ty := (.object "ExtentDisk$Platter")) (C := R_D) (T := T_D) (N := 7) hx hb hts in_D t_D t_D_ok n_D hown hK hP hD hS 0 rfl rfl 0 (by decide) (hts _ ew_109) (fun _ h9 => h9) rfl hin rfl (by decide +kernel) rfl rfl (Nat.le_of_ble_eq_true rfl) d_D_init_26 (fun H locs hP hD hS => ?_)
  have hP : va_P (dC, dI) vwCl [(d0, .inr (3, [.ref pl, .null, .null, .null, .null, .null, .null])), (pl, .inr (1, [.ref pb, .int 0, .int 0, .int (-1)])), (pb, .inl (cB, ep_size x * 4096, .inl (fun _ => 0)))] H := hP
  have hD : va_D A [(d0, .inr (3, [.ref pl, .null, .null, .null, .null, .null, .null])), (pl, .inr (1, [.ref pb, .int 0, .int 0, .int (-1)])), (pb, .inl (cB, ep_size x * 4096, .inl (fun _ => 0)))] := hD
  refine lv_aload_n hx hb d_D_init_29 rfl (lv_at hl 1 rfl) ?_
  refine va_new (ci := 2) (fs := [.null, .int 0]) (C := R_Tp) (T := T_Tp) (N := 2) hx hb hts in_Tp t_Tp t_Tp_ok hown (hts _ ew_62) (hts _ ew_63) (hts _ ew_16) hK hP hD hS hA rfl (fun j hj => by rcases (show j = 0 ∨ j = 1 by omega) with rfl | rfl <;> rfl) (Nat.le_of_ble_eq_true rfl) (show 524292 + 2 ≤ 1060000 from by omega) d_D_init_30 (fun tp H hP hD hS => ?_)
  have hP : va_P (dC, dI) vwCl [(d0, .inr (3, [.ref pl, .null, .null, .null, .null, .null, .null])), (pl, .inr (1, [.ref pb, .int 0, .int 0, .int (-1)])), (pb, .inl (cB, ep_size x * 4096, .inl (fun _ => 0))), (tp, .inr (2, [.null, .int 0]))] H := hP
  have hD : va_D A [(d0, .inr (3, [.ref pl, .null, .null, .null, .null, .null, .null])), (pl, .inr (1, [.ref pb, .int 0, .int 0, .int (-1)])), (pb, .inl (cB, ep_size x * 4096, .inl (fun _ => 0))), (tp, .inr (2, [.null, .int 0]))] := hD
  refine lv_dup hx hb d_D_init_33 rfl ?_
  refine lv_iload_n hx hb d_D_init_34 rfl (lv_at hl 0 rfl) ?_
  refine ey_Iv (Wc := [(tp, .inr (2, [.null, .int 0]))]) (wr := [(d0, .inr (3, [.ref pl, .null, .null, .null, .null, .null, .null])), (pl, .inr (1, [.ref pb, .int 0, .int 0, .int (-1)])), (pb, .inl (cB, ep_size x * 4096, .inl (fun _ => 0)))]) (As := [.int (nI (ep_size x))]) (rest := [.ref tp, .ref d0]) ⟨hx, hb, hml, hown, hts⟩ (c_tp_init l dC dI cI cB cJ cZ tp (nI (ep_size x)) (ep_size x * 4096) (ey_sz1 hs128) (ey_sz2 hs128) (by omega)) (cwI 1 hts g_Tp_init rfl rfl rfl (hts _ ew_16) (hts _ ew_64) (hts _ ew_65) rfl (by decide +kernel) ⟨Nat.le_of_ble_eq_true rfl, Nat.le_of_ble_eq_true rfl⟩) hK hG hP hD hS hA [3] [0, 1, 2] rfl rfl (by decide) (by decide) (by decide) rfl hl.1 rfl (Nat.le_of_ble_eq_true rfl) d_D_init_35 ⟨Nat.le_of_ble_eq_true rfl, (show 524294 + 524288 ≤ 1060000 from by omega)⟩ (fun u_5 H locs e_6 hP hD hS => ?_)
  have hP : va_P (dC, dI) vwCl [(d0, .inr (3, [.ref pl, .null, .null, .null, .null, .null, .null])), (pl, .inr (1, [.ref pb, .int 0, .int 0, .int (-1)])), (pb, .inl (cB, ep_size x * 4096, .inl (fun _ => 0))), (tp, .inr (2, [.ref u_5, .int 0])), (u_5, .inl (cB, ep_size x * 4096, .inl (fun _ => 0)))] H := hP
  have hD : va_D A [(d0, .inr (3, [.ref pl, .null, .null, .null, .null, .null, .null])), (pl, .inr (1, [.ref pb, .int 0, .int 0, .int (-1)])), (pb, .inl (cB, ep_size x * 4096, .inl (fun _ => 0))), (tp, .inr (2, [.ref u_5, .int 0])), (u_5, .inl (cB, ep_size x * 4096, .inl (fun _ => 0)))] := hD
  obtain ⟨tb, rfl⟩ : ∃ z, z = u_5 := ⟨_, rfl⟩
  have hP : va_P (dC, dI) vwCl [(d0, .inr (3, [.ref pl, .null, .null, .null, .null, .null, .null])), (pl, .inr (1, [.ref pb, .int 0, .int 0, .int (-1)])), (pb, .inl (cB, ep_size x * 4096, .inl (fun _ => 0))), (tp, .inr (2, [.ref tb, .int 0])), (tb, .inl (cB, ep_size x * 4096, .inl (fun _ => 0)))] H := hP
  have hD : va_D A [(d0, .inr (3, [.ref pl, .null, .null, .null, .null, .null, .null])), (pl, .inr (1, [.ref pb, .int 0, .int 0, .int (-1)])), (pb, .inl (cB, ep_size x * 4096, .inl (fun _ => 0))), (tp, .inr (2, [.ref tb, .int 0])), (tb, .inl (cB, ep_size x * 4096, .inl (fun _ => 0)))] := hD
  refine va_putF (D := (dC, dI)) (ci := 3) (v := .ref tp) (ty := (.object "ExtentDisk$Tape")) (C := R_D) (T := T_D) (N := 7) hx hb hts in_D t_D t_D_ok n_D hown hK hP hD hS 0 rfl rfl 1 (by decide) (hts _ ew_110) (fun _ h9 => h9) rfl hin rfl (by decide +kernel) rfl rfl (Nat.le_of_ble_eq_true rfl) d_D_init_38 (fun H locs hP hD hS => ?_)
  have hP : va_P (dC, dI) vwCl [(d0, .inr (3, [.ref pl, .ref tp, .null, .null, .null, .null, .null])), (pl, .inr (1, [.ref pb, .int 0, .int 0, .int (-1)])), (pb, .inl (cB, ep_size x * 4096, .inl (fun _ => 0))), (tp, .inr (2, [.ref tb, .int 0])), (tb, .inl (cB, ep_size x * 4096, .inl (fun _ => 0)))] H := hP
  have hD : va_D A [(d0, .inr (3, [.ref pl, .ref tp, .null, .null, .null, .null, .null])), (pl, .inr (1, [.ref pb, .int 0, .int 0, .int (-1)])), (pb, .inl (cB, ep_size x * 4096, .inl (fun _ => 0))), (tp, .inr (2, [.ref tb, .int 0])), (tb, .inl (cB, ep_size x * 4096, .inl (fun _ => 0)))] := hD
  refine lv_aload_n hx hb d_D_init_41 rfl (lv_at hl 1 rfl) ?_
  refine lv_bipush (v := 24) hx hb d_D_init_42 (by decide) ?_
  refine va_newa (atype := .int) (ty := .int) (n := 24) (N' := 24) (a0 := (24, .inl (fun _ => 0))) hx hb (hts _ ew_108) rfl hK hP hD hS hA (fun _ => rfl) (by decide) (by decide) (show 24 * 4 ≤ 536870912 from by omega) (Nat.le_of_ble_eq_true rfl) (show 1048582 + 24 ≤ 1060000 from by omega) d_D_init_44 (fun wi cX H hK9 hP hD hS => ?_)
  obtain rfl : cI = cX := (ey_sameA (k1 := 0) (k2 := 4) hK9 rfl rfl).symm
  have hP : va_P (dC, dI) vwCl [(d0, .inr (3, [.ref pl, .ref tp, .null, .null, .null, .null, .null])), (pl, .inr (1, [.ref pb, .int 0, .int 0, .int (-1)])), (pb, .inl (cB, ep_size x * 4096, .inl (fun _ => 0))), (tp, .inr (2, [.ref tb, .int 0])), (tb, .inl (cB, ep_size x * 4096, .inl (fun _ => 0))), (wi, .inl (cI, 24, .inl (fun _ => 0)))] H := hP
  have hD : va_D A [(d0, .inr (3, [.ref pl, .ref tp, .null, .null, .null, .null, .null])), (pl, .inr (1, [.ref pb, .int 0, .int 0, .int (-1)])), (pb, .inl (cB, ep_size x * 4096, .inl (fun _ => 0))), (tp, .inr (2, [.ref tb, .int 0])), (tb, .inl (cB, ep_size x * 4096, .inl (fun _ => 0))), (wi, .inl (cI, 24, .inl (fun _ => 0)))] := hD
  refine va_putF (D := (dC, dI)) (ci := 3) (v := .ref wi) (ty := (.array .int)) (C := R_D) (T := T_D) (N := 7) hx hb hts in_D t_D t_D_ok n_D hown hK hP hD hS 0 rfl rfl 2 (by decide) (hts _ ew_111) (fun _ h9 => h9) rfl hin rfl (by decide +kernel) rfl rfl (Nat.le_of_ble_eq_true rfl) d_D_init_46 (fun H locs hP hD hS => ?_)
  have hP : va_P (dC, dI) vwCl [(d0, .inr (3, [.ref pl, .ref tp, .ref wi, .null, .null, .null, .null])), (pl, .inr (1, [.ref pb, .int 0, .int 0, .int (-1)])), (pb, .inl (cB, ep_size x * 4096, .inl (fun _ => 0))), (tp, .inr (2, [.ref tb, .int 0])), (tb, .inl (cB, ep_size x * 4096, .inl (fun _ => 0))), (wi, .inl (cI, 24, .inl (fun _ => 0)))] H := hP
  have hD : va_D A [(d0, .inr (3, [.ref pl, .ref tp, .ref wi, .null, .null, .null, .null])), (pl, .inr (1, [.ref pb, .int 0, .int 0, .int (-1)])), (pb, .inl (cB, ep_size x * 4096, .inl (fun _ => 0))), (tp, .inr (2, [.ref tb, .int 0])), (tb, .inl (cB, ep_size x * 4096, .inl (fun _ => 0))), (wi, .inl (cI, 24, .inl (fun _ => 0)))] := hD
  refine lv_aload_n hx hb d_D_init_49 rfl (lv_at hl 1 rfl) ?_
  refine lv_sipush (v := 4096) hx hb d_D_init_50 (by decide) ?_
  refine va_newa (atype := .byte) (ty := .byte) (n := 4096) (N' := 4096) (a0 := (4096, .inl (fun _ => 0))) hx hb (hts _ ew_61) rfl hK hP hD hS hA (fun _ => rfl) (by decide) (by decide) (show 4096 * 1 ≤ 536870912 from by omega) (Nat.le_of_ble_eq_true rfl) (show 1048606 + 4096 ≤ 1060000 from by omega) d_D_init_53 (fun pg cX H hK9 hP hD hS => ?_)
  obtain rfl : cB = cX := (ey_sameA (k1 := 1) (k2 := 4) hK9 rfl rfl).symm
  have hP : va_P (dC, dI) vwCl [(d0, .inr (3, [.ref pl, .ref tp, .ref wi, .null, .null, .null, .null])), (pl, .inr (1, [.ref pb, .int 0, .int 0, .int (-1)])), (pb, .inl (cB, ep_size x * 4096, .inl (fun _ => 0))), (tp, .inr (2, [.ref tb, .int 0])), (tb, .inl (cB, ep_size x * 4096, .inl (fun _ => 0))), (wi, .inl (cI, 24, .inl (fun _ => 0))), (pg, .inl (cB, 4096, .inl (fun _ => 0)))] H := hP
  have hD : va_D A [(d0, .inr (3, [.ref pl, .ref tp, .ref wi, .null, .null, .null, .null])), (pl, .inr (1, [.ref pb, .int 0, .int 0, .int (-1)])), (pb, .inl (cB, ep_size x * 4096, .inl (fun _ => 0))), (tp, .inr (2, [.ref tb, .int 0])), (tb, .inl (cB, ep_size x * 4096, .inl (fun _ => 0))), (wi, .inl (cI, 24, .inl (fun _ => 0))), (pg, .inl (cB, 4096, .inl (fun _ => 0)))] := hD
  refine va_putF (D := (dC, dI)) (ci := 3) (v := .ref pg) (ty := (.array .byte)) (C := R_D) (T := T_D) (N := 7) hx hb hts in_D t_D t_D_ok n_D hown hK hP hD hS 0 rfl rfl 3 (by decide) (hts _ ew_112) (fun _ h9 => h9) rfl hin rfl (by decide +kernel) rfl rfl (Nat.le_of_ble_eq_true rfl) d_D_init_55 (fun H locs hP hD hS => ?_)
  have hP : va_P (dC, dI) vwCl [(d0, .inr (3, [.ref pl, .ref tp, .ref wi, .ref pg, .null, .null, .null])), (pl, .inr (1, [.ref pb, .int 0, .int 0, .int (-1)])), (pb, .inl (cB, ep_size x * 4096, .inl (fun _ => 0))), (tp, .inr (2, [.ref tb, .int 0])), (tb, .inl (cB, ep_size x * 4096, .inl (fun _ => 0))), (wi, .inl (cI, 24, .inl (fun _ => 0))), (pg, .inl (cB, 4096, .inl (fun _ => 0)))] H := hP
  have hD : va_D A [(d0, .inr (3, [.ref pl, .ref tp, .ref wi, .ref pg, .null, .null, .null])), (pl, .inr (1, [.ref pb, .int 0, .int 0, .int (-1)])), (pb, .inl (cB, ep_size x * 4096, .inl (fun _ => 0))), (tp, .inr (2, [.ref tb, .int 0])), (tb, .inl (cB, ep_size x * 4096, .inl (fun _ => 0))), (wi, .inl (cI, 24, .inl (fun _ => 0))), (pg, .inl (cB, 4096, .inl (fun _ => 0)))] := hD
  refine lv_aload_n hx hb d_D_init_58 rfl (lv_at hl 1 rfl) ?_
  refine lv_iload_n hx hb d_D_init_59 rfl (lv_at hl 0 rfl) ?_
  refine va_newa (atype := .int) (ty := .int) (n := (nI (ep_size x))) (N' := ep_size x) (a0 := (ep_size x, .inl (fun _ => 0))) hx hb (hts _ ew_108) rfl hK hP hD hS hA (fun _ => rfl) (nI_pos (by omega)) (nI_clamp (by omega)) (show ep_size x * 4 ≤ 536870912 from by omega) (Nat.le_of_ble_eq_true rfl) (show 1052702 + ep_size x ≤ 1060000 from by omega) d_D_init_60 (fun te cX H hK9 hP hD hS => ?_)
  obtain rfl : cI = cX := (ey_sameA (k1 := 0) (k2 := 4) hK9 rfl rfl).symm
  have hP : va_P (dC, dI) vwCl [(d0, .inr (3, [.ref pl, .ref tp, .ref wi, .ref pg, .null, .null, .null])), (pl, .inr (1, [.ref pb, .int 0, .int 0, .int (-1)])), (pb, .inl (cB, ep_size x * 4096, .inl (fun _ => 0))), (tp, .inr (2, [.ref tb, .int 0])), (tb, .inl (cB, ep_size x * 4096, .inl (fun _ => 0))), (wi, .inl (cI, 24, .inl (fun _ => 0))), (pg, .inl (cB, 4096, .inl (fun _ => 0))), (te, .inl (cI, ep_size x, .inl (fun _ => 0)))] H := hP
  have hD : va_D A [(d0, .inr (3, [.ref pl, .ref tp, .ref wi, .ref pg, .null, .null, .null])), (pl, .inr (1, [.ref pb, .int 0, .int 0, .int (-1)])), (pb, .inl (cB, ep_size x * 4096, .inl (fun _ => 0))), (tp, .inr (2, [.ref tb, .int 0])), (tb, .inl (cB, ep_size x * 4096, .inl (fun _ => 0))), (wi, .inl (cI, 24, .inl (fun _ => 0))), (pg, .inl (cB, 4096, .inl (fun _ => 0))), (te, .inl (cI, ep_size x, .inl (fun _ => 0)))] := hD
  refine va_putF (D := (dC, dI)) (ci := 3) (v := .ref te) (ty := (.array .int)) (C := R_D) (T := T_D) (N := 7) hx hb hts in_D t_D t_D_ok n_D hown hK hP hD hS 0 rfl rfl 4 (by decide) (hts _ ew_113) (fun _ h9 => h9) rfl hin rfl (by decide +kernel) rfl rfl (Nat.le_of_ble_eq_true rfl) d_D_init_62 (fun H locs hP hD hS => ?_)
  have hP : va_P (dC, dI) vwCl [(d0, .inr (3, [.ref pl, .ref tp, .ref wi, .ref pg, .ref te, .null, .null])), (pl, .inr (1, [.ref pb, .int 0, .int 0, .int (-1)])), (pb, .inl (cB, ep_size x * 4096, .inl (fun _ => 0))), (tp, .inr (2, [.ref tb, .int 0])), (tb, .inl (cB, ep_size x * 4096, .inl (fun _ => 0))), (wi, .inl (cI, 24, .inl (fun _ => 0))), (pg, .inl (cB, 4096, .inl (fun _ => 0))), (te, .inl (cI, ep_size x, .inl (fun _ => 0)))] H := hP
  have hD : va_D A [(d0, .inr (3, [.ref pl, .ref tp, .ref wi, .ref pg, .ref te, .null, .null])), (pl, .inr (1, [.ref pb, .int 0, .int 0, .int (-1)])), (pb, .inl (cB, ep_size x * 4096, .inl (fun _ => 0))), (tp, .inr (2, [.ref tb, .int 0])), (tb, .inl (cB, ep_size x * 4096, .inl (fun _ => 0))), (wi, .inl (cI, 24, .inl (fun _ => 0))), (pg, .inl (cB, 4096, .inl (fun _ => 0))), (te, .inl (cI, ep_size x, .inl (fun _ => 0)))] := hD
  refine lv_aload_n hx hb d_D_init_65 rfl (lv_at hl 1 rfl) ?_
  refine va_new (ci := 0) (fs := [.null, .null, .null, .null, .int 0, .int 0]) (C := R_M) (T := T_M) (N := 6) hx hb hts in_M t_M t_M_ok hown (hts _ ew_77) (hts _ ew_78) (hts _ ew_17) hK hP hD hS hA rfl (fun j hj => by rcases (show j = 0 ∨ j = 1 ∨ j = 2 ∨ j = 3 ∨ j = 4 ∨ j = 5 by omega) with rfl | rfl | rfl | rfl | rfl | rfl <;> rfl) (Nat.le_of_ble_eq_true rfl) (show 1052702 + ep_size x + 6 ≤ 1060000 from by omega) d_D_init_66 (fun nw H hP hD hS => ?_)
  have hP : va_P (dC, dI) vwCl [(d0, .inr (3, [.ref pl, .ref tp, .ref wi, .ref pg, .ref te, .null, .null])), (pl, .inr (1, [.ref pb, .int 0, .int 0, .int (-1)])), (pb, .inl (cB, ep_size x * 4096, .inl (fun _ => 0))), (tp, .inr (2, [.ref tb, .int 0])), (tb, .inl (cB, ep_size x * 4096, .inl (fun _ => 0))), (wi, .inl (cI, 24, .inl (fun _ => 0))), (pg, .inl (cB, 4096, .inl (fun _ => 0))), (te, .inl (cI, ep_size x, .inl (fun _ => 0))), (nw, .inr (0, [.null, .null, .null, .null, .int 0, .int 0]))] H := hP
  have hD : va_D A [(d0, .inr (3, [.ref pl, .ref tp, .ref wi, .ref pg, .ref te, .null, .null])), (pl, .inr (1, [.ref pb, .int 0, .int 0, .int (-1)])), (pb, .inl (cB, ep_size x * 4096, .inl (fun _ => 0))), (tp, .inr (2, [.ref tb, .int 0])), (tb, .inl (cB, ep_size x * 4096, .inl (fun _ => 0))), (wi, .inl (cI, 24, .inl (fun _ => 0))), (pg, .inl (cB, 4096, .inl (fun _ => 0))), (te, .inl (cI, ep_size x, .inl (fun _ => 0))), (nw, .inr (0, [.null, .null, .null, .null, .int 0, .int 0]))] := hD
  refine lv_dup hx hb d_D_init_69 rfl ?_
  refine ey_INv (Wc := [(nw, .inr (0, [.null, .null, .null, .null, .int 0, .int 0]))]) (wr := [(d0, .inr (3, [.ref pl, .ref tp, .ref wi, .ref pg, .ref te, .null, .null])), (pl, .inr (1, [.ref pb, .int 0, .int 0, .int (-1)])), (pb, .inl (cB, ep_size x * 4096, .inl (fun _ => 0))), (tp, .inr (2, [.ref tb, .int 0])), (tb, .inl (cB, ep_size x * 4096, .inl (fun _ => 0))), (wi, .inl (cI, 24, .inl (fun _ => 0))), (pg, .inl (cB, 4096, .inl (fun _ => 0))), (te, .inl (cI, ep_size x, .inl (fun _ => 0)))]) (As := []) (rest := [.ref nw, .ref d0]) ⟨hx, hb, hml, hown, hts⟩ (c_mf_init l dC dI cI cB cJ cZ nw) (va_cnB 0 hts g_M_init rfl rfl rfl (ex_nest_R_D_47 hG) (hts _ ew_17) (by decide +kernel) ⟨Nat.le_of_ble_eq_true rfl, Nat.le_of_ble_eq_true rfl⟩) (hts _ ew_80) hK hG hP hD hS hA [8] [0, 1, 2, 3, 4, 5, 6, 7] rfl rfl (by decide) (by decide) (by decide) rfl hl.1 rfl (Nat.le_of_ble_eq_true rfl) d_D_init_70 ⟨Nat.le_of_ble_eq_true rfl, (show 1052702 + ep_size x + 6 + 624 ≤ 1060000 from by omega)⟩ (fun u_8 H locs e_9 hP hD hS => ?_)
  have hP : va_P (dC, dI) vwCl [(d0, .inr (3, [.ref pl, .ref tp, .ref wi, .ref pg, .ref te, .null, .null])), (pl, .inr (1, [.ref pb, .int 0, .int 0, .int (-1)])), (pb, .inl (cB, ep_size x * 4096, .inl (fun _ => 0))), (tp, .inr (2, [.ref tb, .int 0])), (tb, .inl (cB, ep_size x * 4096, .inl (fun _ => 0))), (wi, .inl (cI, 24, .inl (fun _ => 0))), (pg, .inl (cB, 4096, .inl (fun _ => 0))), (te, .inl (cI, ep_size x, .inl (fun _ => 0))), (nw, .inr (0, [.ref u_8.1, .ref u_8.2.1, .ref u_8.2.2.1, .ref u_8.2.2.2, .int 0, .int 0])), (u_8.1, .inl (cI, 200, .inl (fun _ => 0))), (u_8.2.1, .inl (cI, 200, .inl (fun _ => 0))), (u_8.2.2.1, .inl (cI, 200, .inl (fun _ => 0))), (u_8.2.2.2, .inl (cI, 24, .inl (fun _ => 0)))] H := hP
  have hD : va_D A [(d0, .inr (3, [.ref pl, .ref tp, .ref wi, .ref pg, .ref te, .null, .null])), (pl, .inr (1, [.ref pb, .int 0, .int 0, .int (-1)])), (pb, .inl (cB, ep_size x * 4096, .inl (fun _ => 0))), (tp, .inr (2, [.ref tb, .int 0])), (tb, .inl (cB, ep_size x * 4096, .inl (fun _ => 0))), (wi, .inl (cI, 24, .inl (fun _ => 0))), (pg, .inl (cB, 4096, .inl (fun _ => 0))), (te, .inl (cI, ep_size x, .inl (fun _ => 0))), (nw, .inr (0, [.ref u_8.1, .ref u_8.2.1, .ref u_8.2.2.1, .ref u_8.2.2.2, .int 0, .int 0])), (u_8.1, .inl (cI, 200, .inl (fun _ => 0))), (u_8.2.1, .inl (cI, 200, .inl (fun _ => 0))), (u_8.2.2.1, .inl (cI, 200, .inl (fun _ => 0))), (u_8.2.2.2, .inl (cI, 24, .inl (fun _ => 0)))] := hD
  obtain ⟨n1, n2, n3, n4⟩ := u_8
  have hP : va_P (dC, dI) vwCl [(d0, .inr (3, [.ref pl, .ref tp, .ref wi, .ref pg, .ref te, .null, .null])), (pl, .inr (1, [.ref pb, .int 0, .int 0, .int (-1)])), (pb, .inl (cB, ep_size x * 4096, .inl (fun _ => 0))), (tp, .inr (2, [.ref tb, .int 0])), (tb, .inl (cB, ep_size x * 4096, .inl (fun _ => 0))), (wi, .inl (cI, 24, .inl (fun _ => 0))), (pg, .inl (cB, 4096, .inl (fun _ => 0))), (te, .inl (cI, ep_size x, .inl (fun _ => 0))), (nw, .inr (0, [.ref n1, .ref n2, .ref n3, .ref n4, .int 0, .int 0])), (n1, .inl (cI, 200, .inl (fun _ => 0))), (n2, .inl (cI, 200, .inl (fun _ => 0))), (n3, .inl (cI, 200, .inl (fun _ => 0))), (n4, .inl (cI, 24, .inl (fun _ => 0)))] H := hP
  have hD : va_D A [(d0, .inr (3, [.ref pl, .ref tp, .ref wi, .ref pg, .ref te, .null, .null])), (pl, .inr (1, [.ref pb, .int 0, .int 0, .int (-1)])), (pb, .inl (cB, ep_size x * 4096, .inl (fun _ => 0))), (tp, .inr (2, [.ref tb, .int 0])), (tb, .inl (cB, ep_size x * 4096, .inl (fun _ => 0))), (wi, .inl (cI, 24, .inl (fun _ => 0))), (pg, .inl (cB, 4096, .inl (fun _ => 0))), (te, .inl (cI, ep_size x, .inl (fun _ => 0))), (nw, .inr (0, [.ref n1, .ref n2, .ref n3, .ref n4, .int 0, .int 0])), (n1, .inl (cI, 200, .inl (fun _ => 0))), (n2, .inl (cI, 200, .inl (fun _ => 0))), (n3, .inl (cI, 200, .inl (fun _ => 0))), (n4, .inl (cI, 24, .inl (fun _ => 0)))] := hD
  refine va_put (D := (dC, dI)) (ci := 3) (v := .ref nw) (ty := (.object "ExtentDisk$Manifest")) (C := R_D) (T := T_D) (N := 7) hx hb hts in_D t_D t_D_ok n_D hown hK hP hD hS 0 rfl rfl 5 (by decide) (hts _ ew_114) (fun _ h9 => h9) rfl (by decide +kernel) rfl rfl (Nat.le_of_ble_eq_true rfl) d_D_init_73 (fun H locs hP hD hS => ?_)
  have hP : va_P (dC, dI) vwCl [(d0, .inr (3, [.ref pl, .ref tp, .ref wi, .ref pg, .ref te, .ref nw, .null])), (pl, .inr (1, [.ref pb, .int 0, .int 0, .int (-1)])), (pb, .inl (cB, ep_size x * 4096, .inl (fun _ => 0))), (tp, .inr (2, [.ref tb, .int 0])), (tb, .inl (cB, ep_size x * 4096, .inl (fun _ => 0))), (wi, .inl (cI, 24, .inl (fun _ => 0))), (pg, .inl (cB, 4096, .inl (fun _ => 0))), (te, .inl (cI, ep_size x, .inl (fun _ => 0))), (nw, .inr (0, [.ref n1, .ref n2, .ref n3, .ref n4, .int 0, .int 0])), (n1, .inl (cI, 200, .inl (fun _ => 0))), (n2, .inl (cI, 200, .inl (fun _ => 0))), (n3, .inl (cI, 200, .inl (fun _ => 0))), (n4, .inl (cI, 24, .inl (fun _ => 0)))] H := hP
  have hD : va_D A [(d0, .inr (3, [.ref pl, .ref tp, .ref wi, .ref pg, .ref te, .ref nw, .null])), (pl, .inr (1, [.ref pb, .int 0, .int 0, .int (-1)])), (pb, .inl (cB, ep_size x * 4096, .inl (fun _ => 0))), (tp, .inr (2, [.ref tb, .int 0])), (tb, .inl (cB, ep_size x * 4096, .inl (fun _ => 0))), (wi, .inl (cI, 24, .inl (fun _ => 0))), (pg, .inl (cB, 4096, .inl (fun _ => 0))), (te, .inl (cI, ep_size x, .inl (fun _ => 0))), (nw, .inr (0, [.ref n1, .ref n2, .ref n3, .ref n4, .int 0, .int 0])), (n1, .inl (cI, 200, .inl (fun _ => 0))), (n2, .inl (cI, 200, .inl (fun _ => 0))), (n3, .inl (cI, 200, .inl (fun _ => 0))), (n4, .inl (cI, 24, .inl (fun _ => 0)))] := hD
  refine lv_aload_n hx hb d_D_init_76 rfl (lv_at hl 1 rfl) ?_
  refine va_new (ci := 0) (fs := [.null, .null, .null, .null, .int 0, .int 0]) (C := R_M) (T := T_M) (N := 6) hx hb hts in_M t_M t_M_ok hown (hts _ ew_77) (hts _ ew_78) (hts _ ew_17) hK hP hD hS hA rfl (fun j hj => by rcases (show j = 0 ∨ j = 1 ∨ j = 2 ∨ j = 3 ∨ j = 4 ∨ j = 5 by omega) with rfl | rfl | rfl | rfl | rfl | rfl <;> rfl) (Nat.le_of_ble_eq_true rfl) (show 1052702 + ep_size x + 6 + 624 + 6 ≤ 1060000 from by omega) d_D_init_77 (fun nx H hP hD hS => ?_)
  have hP : va_P (dC, dI) vwCl [(d0, .inr (3, [.ref pl, .ref tp, .ref wi, .ref pg, .ref te, .ref nw, .null])), (pl, .inr (1, [.ref pb, .int 0, .int 0, .int (-1)])), (pb, .inl (cB, ep_size x * 4096, .inl (fun _ => 0))), (tp, .inr (2, [.ref tb, .int 0])), (tb, .inl (cB, ep_size x * 4096, .inl (fun _ => 0))), (wi, .inl (cI, 24, .inl (fun _ => 0))), (pg, .inl (cB, 4096, .inl (fun _ => 0))), (te, .inl (cI, ep_size x, .inl (fun _ => 0))), (nw, .inr (0, [.ref n1, .ref n2, .ref n3, .ref n4, .int 0, .int 0])), (n1, .inl (cI, 200, .inl (fun _ => 0))), (n2, .inl (cI, 200, .inl (fun _ => 0))), (n3, .inl (cI, 200, .inl (fun _ => 0))), (n4, .inl (cI, 24, .inl (fun _ => 0))), (nx, .inr (0, [.null, .null, .null, .null, .int 0, .int 0]))] H := hP
  have hD : va_D A [(d0, .inr (3, [.ref pl, .ref tp, .ref wi, .ref pg, .ref te, .ref nw, .null])), (pl, .inr (1, [.ref pb, .int 0, .int 0, .int (-1)])), (pb, .inl (cB, ep_size x * 4096, .inl (fun _ => 0))), (tp, .inr (2, [.ref tb, .int 0])), (tb, .inl (cB, ep_size x * 4096, .inl (fun _ => 0))), (wi, .inl (cI, 24, .inl (fun _ => 0))), (pg, .inl (cB, 4096, .inl (fun _ => 0))), (te, .inl (cI, ep_size x, .inl (fun _ => 0))), (nw, .inr (0, [.ref n1, .ref n2, .ref n3, .ref n4, .int 0, .int 0])), (n1, .inl (cI, 200, .inl (fun _ => 0))), (n2, .inl (cI, 200, .inl (fun _ => 0))), (n3, .inl (cI, 200, .inl (fun _ => 0))), (n4, .inl (cI, 24, .inl (fun _ => 0))), (nx, .inr (0, [.null, .null, .null, .null, .int 0, .int 0]))] := hD
  refine lv_dup hx hb d_D_init_80 rfl ?_
  refine ey_INv (Wc := [(nx, .inr (0, [.null, .null, .null, .null, .int 0, .int 0]))]) (wr := [(d0, .inr (3, [.ref pl, .ref tp, .ref wi, .ref pg, .ref te, .ref nw, .null])), (pl, .inr (1, [.ref pb, .int 0, .int 0, .int (-1)])), (pb, .inl (cB, ep_size x * 4096, .inl (fun _ => 0))), (tp, .inr (2, [.ref tb, .int 0])), (tb, .inl (cB, ep_size x * 4096, .inl (fun _ => 0))), (wi, .inl (cI, 24, .inl (fun _ => 0))), (pg, .inl (cB, 4096, .inl (fun _ => 0))), (te, .inl (cI, ep_size x, .inl (fun _ => 0))), (nw, .inr (0, [.ref n1, .ref n2, .ref n3, .ref n4, .int 0, .int 0])), (n1, .inl (cI, 200, .inl (fun _ => 0))), (n2, .inl (cI, 200, .inl (fun _ => 0))), (n3, .inl (cI, 200, .inl (fun _ => 0))), (n4, .inl (cI, 24, .inl (fun _ => 0)))]) (As := []) (rest := [.ref nx, .ref d0]) ⟨hx, hb, hml, hown, hts⟩ (c_mf_init l dC dI cI cB cJ cZ nx) (va_cnB 0 hts g_M_init rfl rfl rfl (ex_nest_R_D_47 hG) (hts _ ew_17) (by decide +kernel) ⟨Nat.le_of_ble_eq_true rfl, Nat.le_of_ble_eq_true rfl⟩) (hts _ ew_80) hK hG hP hD hS hA [13] [0, 1, 2, 3, 4, 5, 6, 7, 8, 9, 10, 11, 12] rfl rfl (by decide) (by decide) (by decide) rfl hl.1 rfl (Nat.le_of_ble_eq_true rfl) d_D_init_81 ⟨Nat.le_of_ble_eq_true rfl, (show 1052702 + ep_size x + 6 + 624 + 6 + 624 ≤ 1060000 from by omega)⟩ (fun u_11 H locs e_12 hP hD hS => ?_)
  have hP : va_P (dC, dI) vwCl [(d0, .inr (3, [.ref pl, .ref tp, .ref wi, .ref pg, .ref te, .ref nw, .null])), (pl, .inr (1, [.ref pb, .int 0, .int 0, .int (-1)])), (pb, .inl (cB, ep_size x * 4096, .inl (fun _ => 0))), (tp, .inr (2, [.ref tb, .int 0])), (tb, .inl (cB, ep_size x * 4096, .inl (fun _ => 0))), (wi, .inl (cI, 24, .inl (fun _ => 0))), (pg, .inl (cB, 4096, .inl (fun _ => 0))), (te, .inl (cI, ep_size x, .inl (fun _ => 0))), (nw, .inr (0, [.ref n1, .ref n2, .ref n3, .ref n4, .int 0, .int 0])), (n1, .inl (cI, 200, .inl (fun _ => 0))), (n2, .inl (cI, 200, .inl (fun _ => 0))), (n3, .inl (cI, 200, .inl (fun _ => 0))), (n4, .inl (cI, 24, .inl (fun _ => 0))), (nx, .inr (0, [.ref u_11.1, .ref u_11.2.1, .ref u_11.2.2.1, .ref u_11.2.2.2, .int 0, .int 0])), (u_11.1, .inl (cI, 200, .inl (fun _ => 0))), (u_11.2.1, .inl (cI, 200, .inl (fun _ => 0))), (u_11.2.2.1, .inl (cI, 200, .inl (fun _ => 0))), (u_11.2.2.2, .inl (cI, 24, .inl (fun _ => 0)))] H := hP
  have hD : va_D A [(d0, .inr (3, [.ref pl, .ref tp, .ref wi, .ref pg, .ref te, .ref nw, .null])), (pl, .inr (1, [.ref pb, .int 0, .int 0, .int (-1)])), (pb, .inl (cB, ep_size x * 4096, .inl (fun _ => 0))), (tp, .inr (2, [.ref tb, .int 0])), (tb, .inl (cB, ep_size x * 4096, .inl (fun _ => 0))), (wi, .inl (cI, 24, .inl (fun _ => 0))), (pg, .inl (cB, 4096, .inl (fun _ => 0))), (te, .inl (cI, ep_size x, .inl (fun _ => 0))), (nw, .inr (0, [.ref n1, .ref n2, .ref n3, .ref n4, .int 0, .int 0])), (n1, .inl (cI, 200, .inl (fun _ => 0))), (n2, .inl (cI, 200, .inl (fun _ => 0))), (n3, .inl (cI, 200, .inl (fun _ => 0))), (n4, .inl (cI, 24, .inl (fun _ => 0))), (nx, .inr (0, [.ref u_11.1, .ref u_11.2.1, .ref u_11.2.2.1, .ref u_11.2.2.2, .int 0, .int 0])), (u_11.1, .inl (cI, 200, .inl (fun _ => 0))), (u_11.2.1, .inl (cI, 200, .inl (fun _ => 0))), (u_11.2.2.1, .inl (cI, 200, .inl (fun _ => 0))), (u_11.2.2.2, .inl (cI, 24, .inl (fun _ => 0)))] := hD
  obtain ⟨x1, x2, x3, x4⟩ := u_11
  have hP : va_P (dC, dI) vwCl [(d0, .inr (3, [.ref pl, .ref tp, .ref wi, .ref pg, .ref te, .ref nw, .null])), (pl, .inr (1, [.ref pb, .int 0, .int 0, .int (-1)])), (pb, .inl (cB, ep_size x * 4096, .inl (fun _ => 0))), (tp, .inr (2, [.ref tb, .int 0])), (tb, .inl (cB, ep_size x * 4096, .inl (fun _ => 0))), (wi, .inl (cI, 24, .inl (fun _ => 0))), (pg, .inl (cB, 4096, .inl (fun _ => 0))), (te, .inl (cI, ep_size x, .inl (fun _ => 0))), (nw, .inr (0, [.ref n1, .ref n2, .ref n3, .ref n4, .int 0, .int 0])), (n1, .inl (cI, 200, .inl (fun _ => 0))), (n2, .inl (cI, 200, .inl (fun _ => 0))), (n3, .inl (cI, 200, .inl (fun _ => 0))), (n4, .inl (cI, 24, .inl (fun _ => 0))), (nx, .inr (0, [.ref x1, .ref x2, .ref x3, .ref x4, .int 0, .int 0])), (x1, .inl (cI, 200, .inl (fun _ => 0))), (x2, .inl (cI, 200, .inl (fun _ => 0))), (x3, .inl (cI, 200, .inl (fun _ => 0))), (x4, .inl (cI, 24, .inl (fun _ => 0)))] H := hP
  have hD : va_D A [(d0, .inr (3, [.ref pl, .ref tp, .ref wi, .ref pg, .ref te, .ref nw, .null])), (pl, .inr (1, [.ref pb, .int 0, .int 0, .int (-1)])), (pb, .inl (cB, ep_size x * 4096, .inl (fun _ => 0))), (tp, .inr (2, [.ref tb, .int 0])), (tb, .inl (cB, ep_size x * 4096, .inl (fun _ => 0))), (wi, .inl (cI, 24, .inl (fun _ => 0))), (pg, .inl (cB, 4096, .inl (fun _ => 0))), (te, .inl (cI, ep_size x, .inl (fun _ => 0))), (nw, .inr (0, [.ref n1, .ref n2, .ref n3, .ref n4, .int 0, .int 0])), (n1, .inl (cI, 200, .inl (fun _ => 0))), (n2, .inl (cI, 200, .inl (fun _ => 0))), (n3, .inl (cI, 200, .inl (fun _ => 0))), (n4, .inl (cI, 24, .inl (fun _ => 0))), (nx, .inr (0, [.ref x1, .ref x2, .ref x3, .ref x4, .int 0, .int 0])), (x1, .inl (cI, 200, .inl (fun _ => 0))), (x2, .inl (cI, 200, .inl (fun _ => 0))), (x3, .inl (cI, 200, .inl (fun _ => 0))), (x4, .inl (cI, 24, .inl (fun _ => 0)))] := hD
  refine va_put (D := (dC, dI)) (ci := 3) (v := .ref nx) (ty := (.object "ExtentDisk$Manifest")) (C := R_D) (T := T_D) (N := 7) hx hb hts in_D t_D t_D_ok n_D hown hK hP hD hS 0 rfl rfl 6 (by decide) (hts _ ew_115) (fun _ h9 => h9) rfl (by decide +kernel) rfl rfl (Nat.le_of_ble_eq_true rfl) d_D_init_84 (fun H locs hP hD hS => ?_)
  have hP : va_P (dC, dI) vwCl [(d0, .inr (3, [.ref pl, .ref tp, .ref wi, .ref pg, .ref te, .ref nw, .ref nx])), (pl, .inr (1, [.ref pb, .int 0, .int 0, .int (-1)])), (pb, .inl (cB, ep_size x * 4096, .inl (fun _ => 0))), (tp, .inr (2, [.ref tb, .int 0])), (tb, .inl (cB, ep_size x * 4096, .inl (fun _ => 0))), (wi, .inl (cI, 24, .inl (fun _ => 0))), (pg, .inl (cB, 4096, .inl (fun _ => 0))), (te, .inl (cI, ep_size x, .inl (fun _ => 0))), (nw, .inr (0, [.ref n1, .ref n2, .ref n3, .ref n4, .int 0, .int 0])), (n1, .inl (cI, 200, .inl (fun _ => 0))), (n2, .inl (cI, 200, .inl (fun _ => 0))), (n3, .inl (cI, 200, .inl (fun _ => 0))), (n4, .inl (cI, 24, .inl (fun _ => 0))), (nx, .inr (0, [.ref x1, .ref x2, .ref x3, .ref x4, .int 0, .int 0])), (x1, .inl (cI, 200, .inl (fun _ => 0))), (x2, .inl (cI, 200, .inl (fun _ => 0))), (x3, .inl (cI, 200, .inl (fun _ => 0))), (x4, .inl (cI, 24, .inl (fun _ => 0)))] H := hP
  have hD : va_D A [(d0, .inr (3, [.ref pl, .ref tp, .ref wi, .ref pg, .ref te, .ref nw, .ref nx])), (pl, .inr (1, [.ref pb, .int 0, .int 0, .int (-1)])), (pb, .inl (cB, ep_size x * 4096, .inl (fun _ => 0))), (tp, .inr (2, [.ref tb, .int 0])), (tb, .inl (cB, ep_size x * 4096, .inl (fun _ => 0))), (wi, .inl (cI, 24, .inl (fun _ => 0))), (pg, .inl (cB, 4096, .inl (fun _ => 0))), (te, .inl (cI, ep_size x, .inl (fun _ => 0))), (nw, .inr (0, [.ref n1, .ref n2, .ref n3, .ref n4, .int 0, .int 0])), (n1, .inl (cI, 200, .inl (fun _ => 0))), (n2, .inl (cI, 200, .inl (fun _ => 0))), (n3, .inl (cI, 200, .inl (fun _ => 0))), (n4, .inl (cI, 24, .inl (fun _ => 0))), (nx, .inr (0, [.ref x1, .ref x2, .ref x3, .ref x4, .int 0, .int 0])), (x1, .inl (cI, 200, .inl (fun _ => 0))), (x2, .inl (cI, 200, .inl (fun _ => 0))), (x3, .inl (cI, 200, .inl (fun _ => 0))), (x4, .inl (cI, 24, .inl (fun _ => 0)))] := hD
  exact ey_vret (W1 := fun (u : Nat × Nat × Nat × Nat × Nat × Nat × Nat × Nat × Nat × Nat × Nat × Nat × Nat × Nat × Nat × Nat × Nat) => [(d0, .inr (3, [.ref u.1, .ref u.2.2.1, .ref u.2.2.2.2.1, .ref u.2.2.2.2.2.1, .ref u.2.2.2.2.2.2.1, .ref u.2.2.2.2.2.2.2.1, .ref u.2.2.2.2.2.2.2.2.2.2.2.2.1])), (u.1, .inr (1, [.ref u.2.1, .int 0, .int 0, .int (-1)])), (u.2.1, .inl (cB, (ep_size x * 4096), .inl (fun _ => 0))), (u.2.2.1, .inr (2, [.ref u.2.2.2.1, .int 0])), (u.2.2.2.1, .inl (cB, (ep_size x * 4096), .inl (fun _ => 0))), (u.2.2.2.2.1, .inl (cI, 24, .inl (fun _ => 0))), (u.2.2.2.2.2.1, .inl (cB, 4096, .inl (fun _ => 0))), (u.2.2.2.2.2.2.1, .inl (cI, (ep_size x), .inl (fun _ => 0))), (u.2.2.2.2.2.2.2.1, .inr (0, [.ref u.2.2.2.2.2.2.2.2.1, .ref u.2.2.2.2.2.2.2.2.2.1, .ref u.2.2.2.2.2.2.2.2.2.2.1, .ref u.2.2.2.2.2.2.2.2.2.2.2.1, .int 0, .int 0])), (u.2.2.2.2.2.2.2.2.1, .inl (cI, 200, .inl (fun _ => 0))), (u.2.2.2.2.2.2.2.2.2.1, .inl (cI, 200, .inl (fun _ => 0))), (u.2.2.2.2.2.2.2.2.2.2.1, .inl (cI, 200, .inl (fun _ => 0))), (u.2.2.2.2.2.2.2.2.2.2.2.1, .inl (cI, 24, .inl (fun _ => 0))), (u.2.2.2.2.2.2.2.2.2.2.2.2.1, .inr (0, [.ref u.2.2.2.2.2.2.2.2.2.2.2.2.2.1, .ref u.2.2.2.2.2.2.2.2.2.2.2.2.2.2.1, .ref u.2.2.2.2.2.2.2.2.2.2.2.2.2.2.2.1, .ref u.2.2.2.2.2.2.2.2.2.2.2.2.2.2.2.2, .int 0, .int 0])), (u.2.2.2.2.2.2.2.2.2.2.2.2.2.1, .inl (cI, 200, .inl (fun _ => 0))), (u.2.2.2.2.2.2.2.2.2.2.2.2.2.2.1, .inl (cI, 200, .inl (fun _ => 0))), (u.2.2.2.2.2.2.2.2.2.2.2.2.2.2.2.1, .inl (cI, 200, .inl (fun _ => 0))), (u.2.2.2.2.2.2.2.2.2.2.2.2.2.2.2.2, .inl (cI, 24, .inl (fun _ => 0)))]) hx hb hr hlocks hP hD hS (pl, pb, tp, tb, wi, pg, te, nw, n1, n2, n3, n4, nx, x1, x2, x3, x4) [0, 1, 2, 3, 4, 5, 6, 7, 8, 9, 10, 11, 12, 13, 14, 15, 16, 17] rfl (by decide) trivial d_D_init_87 (Nat.le_of_ble_eq_true rfl) (show 1052702 + ep_size x + 6 + 624 + 6 + 624 ≤ 1060000 from by omega)
end
