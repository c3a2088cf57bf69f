/-! methods that may throw: the world is as it was -/
def ey_Z (A : Nat → Prop) (U : State) (H : Heap) : Prop := vx_Zq "java/lang/Throwable" "UNASSIGNED_STACK" "[Ljava/lang/StackTraceElement;" A U H ∧ vx_Zq "java/lang/Throwable" "SUPPRESSED_SENTINEL" "Ljava/util/List;" A U H
theorem ey_Z.moved {A : Nat → Prop} {u U : State} {H : Heap} (hvm : u.vm.Alike U.vm) (h : ey_Z A u H) : ey_Z A U H := ⟨h.1.moved hvm, h.2.moved hvm⟩
theorem ey_Z.kept {A : Nat → Prop} {U : State} {H H1 : Heap} (h : ey_Z A U H) (hq : ∀ a : Nat, a < H.size → ¬ A a → H1[a]? = H[a]?) : ey_Z A U H1 := ⟨h.1.kept hq, h.2.kept hq⟩
theorem ey_Z.narrow {A B : Nat → Prop} {U : State} {H : Heap} (h : ey_Z A U H) (hAB : ∀ q, B q → A q) : ey_Z B U H := ⟨h.1.narrow hAB, h.2.narrow hAB⟩
def ey_PreX (D : va_G) (cl : List vw_C) (kt : List (ClassId × FieldType)) (W9 : va_W) (sz : Nat) (U : State) : Prop := ey_Z (va_A W9 sz) U U.heap ∧ ey_Pre D cl kt W9 sz U
def ey_Xi (l : Launch) (y : MethodName) (ws : List Cond) (rm : Room) (D : va_G) (cl : List vw_C) (kt : List (ClassId × FieldType)) (av : List Value) (W0 : va_W) {S : Type} (post : Int32 → S → Prop) (W1 : S → va_W) (thr : String → Prop) (mc ms : Nat) : Prop :=
  ∀ sz : Nat, vx_Met l y ws rm (va_Pc av (ey_PreX D cl kt W0 sz)) (va_Qi post (fun u t => ey_Post D cl (va_A W0 sz) (W1 u) t) (va_A W0 sz)) (vx_X (fun _ : Unit => True) (fun E _ t => thr E ∧ ey_Post D cl (va_A W0 sz) W0 t) (va_A W0 sz)) mc ms (va_A W0 sz)
def ey_Xv (l : Launch) (y : MethodName) (ws : List Cond) (rm : Room) (D : va_G) (cl : List vw_C) (kt : List (ClassId × FieldType)) (av : List Value) (W0 : va_W) {S : Type} (post : S → Prop) (W1 : S → va_W) (thr : String → Prop) (mc ms : Nat) : Prop :=
  ∀ sz : Nat, vx_Met l y ws rm (va_Pc av (ey_PreX D cl kt W0 sz)) (va_Qv post (fun u t => ey_Post D cl (va_A W0 sz) (W1 u) t) (va_A W0 sz)) (vx_X (fun _ : Unit => True) (fun E _ t => thr E ∧ ey_Post D cl (va_A W0 sz) W0 t) (va_A W0 sz)) mc ms (va_A W0 sz)
theorem ey_blindX {D : va_G} {cl : List vw_C} {kt : List (ClassId × FieldType)} {W9 : va_W} {sz : Nat} {av : List Value} : FrameBlind (va_Pc av (ey_PreX D cl kt W9 sz)) := fun a U g mk q => by
  obtain ⟨q0, qZ, q1, qP, qK, qG, qD⟩ := q
  exact ⟨q0, qZ.moved (u := U) (U := U.calling g mk a) (Vm.Alike.refl U.vm), q1, qP, va_K.moved (u := U) (U := U.calling g mk a) (Vm.Alike.refl U.vm) qK, ex_G.same (u := U) (U := U.calling g mk a) rfl qG, qD⟩
theorem ey_keptX {D : va_G} {cl : List vw_C} {ws : va_W} {A : Nat → Prop} {s t : State} {H : Heap} {locs : List Loc} (hP : va_P D cl ws H) (hD : va_D A ws) (hS : va_S A s.heap H locs) (hz : H.size ≤ t.heap.size) (hk : ∀ q : Nat, q < H.size → t.heap[q]? = H[q]?) : ey_Post D cl A ws t ∧ va_F A s t :=
  ⟨⟨hP.kept (fun k q h => hk q.1 (vx_lt hP h)), hD⟩, Nat.le_trans hS.1 hz, fun q h1 h2 => (hk q (Nat.lt_of_lt_of_le h1 hS.1)).trans (hS.2.1 q h1 h2)⟩
/-- a static method of the law that catches: its contract -/
def ey_Hi (l : Launch) (y : MethodName) (ws : List Cond) (rm : Room) (D : va_G) (cl : List vw_C) (kt : List (ClassId × FieldType)) (av : List Value) (W0 : va_W) {S : Type} (post : Int32 → S → Prop) (W1 : S → va_W) (mc ms : Nat) : Prop :=
  ∀ sz : Nat, Met l y ws rm (va_Pc av (ey_PreX D cl kt W0 sz)) (va_Qi post (fun u t => ey_Post D cl (va_A W0 sz) (W1 u) t) (va_A W0 sz)) mc ms (va_A W0 sz)
theorem ey_Z.at {A : Nat → Prop} {s : State} {H : Heap} {locs : List Loc} (h : ey_Z A s s.heap) (hS : va_S A s.heap H locs) : ey_Z A s H := h.kept (fun a h1 h2 => hS.2.1 a h1 h2)
section EYX
variable {p : Program} {l : Launch} {e : Env} {R : Room} {s : State} {m : MethodId} {args : Array Value} {below : List Frame} {meth : Method} {c : Code} {H : Heap} {locs : List Loc} {cells slots : Nat} {Q : State → Prop}
variable {cc bytes : ByteArray} {nL maxL mc ms n index pc : Nat} {ret : Option FieldType} {wy : List Cond} {rm : Room} {Ts : List Cond} {own C : String} {y : MethodName} {b : Nat} {As rest st0 : List Value} {ls : Array Slot} {hh : List (Nat × Nat × Nat × Nat)}
variable {D : va_G} {cl : List vw_C} {kt : List (ClassId × FieldType)} {ws Wc wr : va_W} {A : Nat → Prop} {S : Type} {postI : Int32 → S → Prop} {postV : S → Prop} {W1 : S → va_W} {thr : String → Prop}
theorem ey_XVi (F : CallFix p m c cc nL s args Ts own) (hM : ey_Xi l y wy rm D cl kt (.ref b :: As) Wc postI W1 thr mc ms) (cw : CallW R s args own C index y bytes maxL ret wy rm mc ms n)
    (hK : va_K D cl kt s) (hG : ex_G s) (hZ : ey_Z A s s.heap) (hP : va_P D cl ws H) (hD : va_D A ws) (hS : va_S A s.heap H locs) (hA : ∀ q, s.heap.size ≤ q → A q) (isC isR : List Nat) (hC : isC.map (fun i => ws[i]?) = Wc.map some) (hR : isR.map (fun i => ws[i]?) = wr.map some) (hnd : va_nd isC = true) (hnr : va_nd isR = true) (hdis : ∀ i ∈ isR, i ∉ isC)
    {ci q0 N : Nat} {T : u_T} {fs : List Value} (hci : cl[ci]? = some (C, T, N)) (hq : Wc[q0]? = some (b, .inr (ci, fs))) (hn : As.length = n) (hsz : ls.size = nL) (hst : st0 = As.reverse ++ .ref b :: rest) (hW : (rest.map fun v => v.category).sum ≤ 8) (hdg : decode cc pc = .ok (.invokevirtual index, 3)) (hf : cells + mc ≤ R.cells ∧ slots + ms ≤ R.slots)
    (kx : ∀ (E : String) (ce : Cell) (q9 : Addr) (H1 : Heap) (locs1 : List Loc), thr E → va_P D cl (wr ++ Wc) H1 → va_D A (wr ++ Wc) → va_S A s.heap H1 locs1 → H1[q9]? = some ce → ce.vm = .none → s.vm.findClass E = some ce.cls → vx_W p l e R s m args below meth c H1 locs1 (cells + mc) (slots + ms) Q (F0 m pc ls rest) q9)
    (kk : ∀ (r : Int32) (u : S) (H1 : Heap) (locs1 : List Loc), postI r u → va_P D cl (wr ++ W1 u) H1 → va_D A (wr ++ W1 u) → va_S A s.heap H1 locs1 → W p l e R s m args below meth c H1 locs1 (cells + mc) (slots + ms) Q (F0 m (pc + 3) ls (.int r :: rest))) : W p l e R s m args below meth c H locs cells slots Q (F0 m pc ls st0) := by
  have hPc := ey_P hP hC
  have hDc := hD.sub isC hnd hC
  have hFc := va_free hD hS hA isC hC
  have hZc := (hZ.at hS).narrow hFc
  refine vx_calli (vx_runV (As := As) (rest := rest) F (hM H.size) cw ⟨ey_blindX, va_recv hK hPc hci hq, fun U hU hW9 => ⟨rfl, by rw [hU]; exact hZc.moved hW9.alike, by rw [hU], by rw [hU]; exact hPc, va_K.moved hW9.alike hK, ex_G.warm hW9 hG, hDc.weaken (fun _ _ _ _ => trivial)⟩⟩ rfl hn hsz hst (lv_room hW) hdg hf) hS (fun q _ h => hFc q h) hFc (fun q _ h => hFc q h) (fun E ce q9 u t H1 locs1 ht hvm hp hB hz1 hk1 hS1 h1 h2 h3 => ?_) (fun r u t H1 locs1 ht hvm hw hB hz1 hk1 hS1 => ?_)
  · obtain ⟨ht9, hP1, hD1⟩ := hB
    rw [ht] at hP1
    obtain ⟨hP2, hD2⟩ := va_join hP hD isC isR hC hR hnr hdis hk1 hFc hP1 hD1
    exact kx E ce q9 H1 locs1 ht9 hP2 hD2 hS1 h1 h2 h3
  · obtain ⟨hP1, hD1⟩ := hB
    rw [ht] at hP1
    obtain ⟨hP2, hD2⟩ := va_join hP hD isC isR hC hR hnr hdis hk1 hFc hP1 hD1
    exact kk r u H1 locs1 hw hP2 hD2 hS1
theorem ey_XVv (F : CallFix p m c cc nL s args Ts own) (hM : ey_Xv l y wy rm D cl kt (.ref b :: As) Wc postV W1 thr mc ms) (cw : CallW R s args own C index y bytes maxL ret wy rm mc ms n)
    (hK : va_K D cl kt s) (hG : ex_G s) (hZ : ey_Z A s s.heap) (hP : va_P D cl ws H) (hD : va_D A ws) (hS : va_S A s.heap H locs) (hA : ∀ q, s.heap.size ≤ q → A q) (isC isR : List Nat) (hC : isC.map (fun i => ws[i]?) = Wc.map some) (hR : isR.map (fun i => ws[i]?) = wr.map some) (hnd : va_nd isC = true) (hnr : va_nd isR = true) (hdis : ∀ i ∈ isR, i ∉ isC)
    {ci q0 N : Nat} {T : u_T} {fs : List Value} (hci : cl[ci]? = some (C, T, N)) (hq : Wc[q0]? = some (b, .inr (ci, fs))) (hn : As.length = n) (hsz : ls.size = nL) (hst : st0 = As.reverse ++ .ref b :: rest) (hW : (rest.map fun v => v.category).sum ≤ 8) (hdg : decode cc pc = .ok (.invokevirtual index, 3)) (hf : cells + mc ≤ R.cells ∧ slots + ms ≤ R.slots)
    (kx : ∀ (E : String) (ce : Cell) (q9 : Addr) (H1 : Heap) (locs1 : List Loc), thr E → va_P D cl (wr ++ Wc) H1 → va_D A (wr ++ Wc) → va_S A s.heap H1 locs1 → H1[q9]? = some ce → ce.vm = .none → s.vm.findClass E = some ce.cls → vx_W p l e R s m args below meth c H1 locs1 (cells + mc) (slots + ms) Q (F0 m pc ls rest) q9)
    (kk : ∀ (u : S) (H1 : Heap) (locs1 : List Loc), postV u → va_P D cl (wr ++ W1 u) H1 → va_D A (wr ++ W1 u) → va_S A s.heap H1 locs1 → W p l e R s m args below meth c H1 locs1 (cells + mc) (slots + ms) Q (F0 m (pc + 3) ls rest)) : W p l e R s m args below meth c H locs cells slots Q (F0 m pc ls st0) := by
  have hPc := ey_P hP hC
  have hDc := hD.sub isC hnd hC
  have hFc := va_free hD hS hA isC hC
  have hZc := (hZ.at hS).narrow hFc
  refine vx_callv (vx_runV (As := As) (rest := rest) F (hM H.size) cw ⟨ey_blindX, va_recv hK hPc hci hq, fun U hU hW9 => ⟨rfl, by rw [hU]; exact hZc.moved hW9.alike, by rw [hU], by rw [hU]; exact hPc, va_K.moved hW9.alike hK, ex_G.warm hW9 hG, hDc.weaken (fun _ _ _ _ => trivial)⟩⟩ rfl hn hsz hst (lv_room hW) hdg hf) hS (fun q _ h => hFc q h) hFc (fun q _ h => hFc q h) (fun E ce q9 u t H1 locs1 ht hvm hp hB hz1 hk1 hS1 h1 h2 h3 => ?_) (fun u t H1 locs1 ht hvm hw hB hz1 hk1 hS1 => ?_)
  · obtain ⟨ht9, hP1, hD1⟩ := hB
    rw [ht] at hP1
    obtain ⟨hP2, hD2⟩ := va_join hP hD isC isR hC hR hnr hdis hk1 hFc hP1 hD1
    exact kx E ce q9 H1 locs1 ht9 hP2 hD2 hS1 h1 h2 h3
  · obtain ⟨hP1, hD1⟩ := hB
    rw [ht] at hP1
    obtain ⟨hP2, hD2⟩ := va_join hP hD isC isR hC hR hnr hdis hk1 hFc hP1 hD1
    exact kk u H1 locs1 hw hP2 hD2 hS1
/-- the law's call of one of its own that catches -/
theorem ey_SWi (F : CallFix p m c cc nL s args Ts own) (hM : ey_Hi l y wy rm D cl kt As Wc postI W1 mc ms) (cw : vx_CSW R s args own index y bytes maxL ret hh wy rm mc ms n)
    (hK : va_K D cl kt s) (hG : ex_G s) (hZ : ey_Z A s s.heap) (hP : va_P D cl ws H) (hD : va_D A ws) (hS : va_S A s.heap H locs) (hA : ∀ q, s.heap.size ≤ q → A q) (isC isR : List Nat) (hC : isC.map (fun i => ws[i]?) = Wc.map some) (hR : isR.map (fun i => ws[i]?) = wr.map some) (hnd : va_nd isC = true) (hnr : va_nd isR = true) (hdis : ∀ i ∈ isR, i ∉ isC)
    (hn : As.length = n) (hsz : ls.size = nL) (hst : st0 = As.reverse ++ rest) (hW : (rest.map fun v => v.category).sum ≤ 8) (hdg : decode cc pc = .ok (.invokestatic index, 3)) (hf : cells + mc ≤ R.cells ∧ slots + ms ≤ R.slots)
    (kk : ∀ (r : Int32) (u : S) (H1 : Heap) (locs1 : List Loc), postI r u → va_P D cl (wr ++ W1 u) H1 → va_D A (wr ++ W1 u) → va_S A s.heap H1 locs1 → W p l e R s m args below meth c H1 locs1 (cells + mc) (slots + ms) Q (F0 m (pc + 3) ls (.int r :: rest))) : W p l e R s m args below meth c H locs cells slots Q (F0 m pc ls st0) := by
  have hPc := ey_P hP hC
  have hDc := hD.sub isC hnd hC
  have hFc := va_free hD hS hA isC hC
  have hZc := (hZ.at hS).narrow hFc
  refine va_calli (vx_runSW (As := As) (rest := rest) F (hM H.size) cw ⟨ey_blindX, fun U hU hW9 => ⟨rfl, by rw [hU]; exact hZc.moved hW9.alike, by rw [hU], by rw [hU]; exact hPc, va_K.moved hW9.alike hK, ex_G.warm hW9 hG, hDc.weaken (fun _ _ _ _ => trivial)⟩⟩ rfl hn hsz hst (lv_room hW) hdg hf) hS (fun q _ h => hFc q h) hFc (fun r u t H1 locs1 ht hvm hw hB hz1 hk1 hS1 => ?_)
  obtain ⟨hP1, hD1⟩ := hB
  rw [ht] at hP1
  obtain ⟨hP2, hD2⟩ := va_join hP hD isC isR hC hR hnr hdis hk1 hFc hP1 hD1
  exact kk r u H1 locs1 hw hP2 hD2 hS1
end EYX
