/-! my own base: contracts over a list of cells, with one table of array classes; calls with the frame rule inside -/
def ey_ushr (x y : Int32) : Int32 := (x.toUInt32 >>> (y.toUInt32 &&& Int32.toUInt32 31)).toInt32
def ey_lushr (x : Int64) (y : Int32) : Int64 := (x.toUInt64 >>> (y.toInt64.toUInt64 &&& Int64.toUInt64 63)).toInt64
def ey_lshl (x : Int64) (y : Int32) : Int64 := x <<< (y.toInt64 &&& 63)
abbrev ey_kt (cI cB cJ cZ : ClassId) : List (ClassId × FieldType) := [(cI, .int), (cB, .byte), (cJ, .long), (cZ, .boolean)]
def ey_Pre (D : va_G) (cl : List vw_C) (kt : List (ClassId × FieldType)) (W9 : va_W) (sz : Nat) (U : State) : Prop :=
  U.heap.size = sz ∧ va_P D cl W9 U.heap ∧ va_K D cl kt U ∧ ex_G U ∧ va_D (fun _ => True) W9
def ey_Post (D : va_G) (cl : List vw_C) (A : Nat → Prop) (W9 : va_W) (t : State) : Prop := va_P D cl W9 t.heap ∧ va_D A W9
def ey_Mi (l : Launch) (y : MethodName) (ws : List Cond) (rm : Room) (D : va_G) (cl : List vw_C) (kt : List (ClassId × FieldType)) (av : List Value) (W0 : va_W) {S : Type} (post : Int32 → S → Prop) (W1 : S → va_W) (mc ms : Nat) : Prop :=
  ∀ sz : Nat, Met l y ws rm (va_Pc av (ey_Pre D cl kt W0 sz)) (va_Qi post (fun u t => ey_Post D cl (va_A W0 sz) (W1 u) t) (va_A W0 sz)) mc ms (va_A W0 sz)
def ey_Mv (l : Launch) (y : MethodName) (ws : List Cond) (rm : Room) (D : va_G) (cl : List vw_C) (kt : List (ClassId × FieldType)) (av : List Value) (W0 : va_W) {S : Type} (post : S → Prop) (W1 : S → va_W) (mc ms : Nat) : Prop :=
  ∀ sz : Nat, Met l y ws rm (va_Pc av (ey_Pre D cl kt W0 sz)) (va_Qv post (fun u t => ey_Post D cl (va_A W0 sz) (W1 u) t) (va_A W0 sz)) mc ms (va_A W0 sz)
theorem ey_blind {D : va_G} {cl : List vw_C} {kt : List (ClassId × FieldType)} {W9 : va_W} {sz : Nat} {av : List Value} : FrameBlind (va_Pc av (ey_Pre D cl kt W9 sz)) := fun a U g mk q => by
  obtain ⟨q0, q1, qP, qK, qG, qD⟩ := q
  exact ⟨q0, q1, qP, va_K.moved (u := U) (U := U.calling g mk a) (Vm.Alike.refl U.vm) qK, ex_G.same (u := U) (U := U.calling g mk a) rfl qG, qD⟩
theorem ey_pick {ws wc : va_W} {is : List Nat} (h : is.map (fun i => ws[i]?) = wc.map some) (k : Nat) (q : Nat × va_E) (hq : wc[k]? = some q) : ∃ i, is[k]? = some i ∧ ws[i]? = some q := by
  have h1 : (is.map (fun i => ws[i]?))[k]? = some (some q) := by rw [h, List.getElem?_map, hq]; rfl
  rw [List.getElem?_map] at h1
  cases hi : is[k]? with
  | none => rw [hi] at h1; cases h1
  | some i => rw [hi] at h1; exact ⟨i, rfl, Option.some.inj h1⟩
theorem ey_P {D : va_G} {cl : List vw_C} {ws wc : va_W} {H : Heap} {is : List Nat} (hP : va_P D cl ws H) (h : is.map (fun i => ws[i]?) = wc.map some) : va_P D cl wc H := fun k q hq => by
  obtain ⟨i, -, hi⟩ := ey_pick h k q hq
  exact hP i q hi
/-- two array classes of one primitive type are one -/
theorem ey_sameA {D : va_G} {cl : List vw_C} {tys : List (ClassId × FieldType)} {s : State} {k1 k2 : Nat} {c1 c2 : ClassId} {ty : FieldType} (hK : va_K D cl tys s) (h1 : tys[k1]? = some (c1, ty)) (h2 : tys[k2]? = some (c2, ty)) (hp : refKind ty = false := by rfl) : c2 = c1 := by
  have a1 := (hK.2 k1 _ h1).2
  have a2 := (hK.2 k2 _ h2).2
  cases ty with
  | object C => cases hp
  | _ => exact Option.some.inj (Eq.trans (Eq.symm a2) a1)
section EYC
variable {p : Program} {l : Launch} {e : Env} {R : Room} {s : State} {m : MethodId} {args : Array Value} {below : List Frame} {meth : Method} {c : Code} {H : Heap} {locs : List Loc} {cells slots : Nat} {Q : State → Prop}
variable {cc bytes : ByteArray} {nL maxL mc ms n index pc : Nat} {ret : Option FieldType} {wy : List Cond} {rm : Room} {Ts : List Cond} {own C host : String} {y : MethodName} {b : Nat} {As rest st0 : List Value} {ls : Array Slot}
variable {D : va_G} {cl : List vw_C} {kt : List (ClassId × FieldType)} {ws Wc wr : va_W} {A : Nat → Prop} {S : Type} {postI : Int32 → S → Prop} {postV : S → Prop} {W1 : S → va_W}
theorem ey_Vi (F : CallFix p m c cc nL s args Ts own) (hM : ey_Mi l y wy rm D cl kt (.ref b :: As) Wc postI W1 mc ms) (cw : CallW R s args own C index y bytes maxL ret wy rm mc ms n)
    (hK : va_K D cl kt s) (hG : ex_G s) (hP : va_P D cl ws H) (hD : va_D A ws) (hS : va_S A s.heap H locs) (hA : ∀ q, s.heap.size ≤ q → A q) (isC isR : List Nat) (hC : isC.map (fun i => ws[i]?) = Wc.map some) (hR : isR.map (fun i => ws[i]?) = wr.map some) (hnd : va_nd isC = true) (hnr : va_nd isR = true) (hdis : ∀ i ∈ isR, i ∉ isC)
    {ci q0 N : Nat} {T : u_T} {fs : List Value} (hci : cl[ci]? = some (C, T, N)) (hq : Wc[q0]? = some (b, .inr (ci, fs))) (hn : As.length = n) (hsz : ls.size = nL) (hst : st0 = As.reverse ++ .ref b :: rest) (hW : (rest.map fun v => v.category).sum ≤ 8) (hdg : decode cc pc = .ok (.invokevirtual index, 3)) (hf : cells + mc ≤ R.cells ∧ slots + ms ≤ R.slots)
    (kk : ∀ (r : Int32) (u : S) (H1 : Heap) (locs1 : List Loc), postI r u → va_P D cl (wr ++ W1 u) H1 → va_D A (wr ++ W1 u) → va_S A s.heap H1 locs1 → W p l e R s m args below meth c H1 locs1 (cells + mc) (slots + ms) Q (F0 m (pc + 3) ls (.int r :: rest))) : W p l e R s m args below meth c H locs cells slots Q (F0 m pc ls st0) := by
  have hPc := ey_P hP hC
  have hDc := hD.sub isC hnd hC
  have hFc := va_free hD hS hA isC hC
  refine va_calli (va_runV (As := As) (rest := rest) F (hM H.size) cw ⟨ey_blind, va_recv hK hPc hci hq, fun U hU hW9 => ⟨rfl, by rw [hU], by rw [hU]; exact hPc, va_K.moved hW9.alike hK, ex_G.warm hW9 hG, hDc.weaken (fun _ _ _ _ => trivial)⟩⟩ rfl hn hsz hst (lv_room hW) hdg hf) hS (fun q _ h => hFc q h) hFc (fun r u t H1 locs1 ht hvm hw hB hz1 hk1 hS1 => ?_)
  obtain ⟨hP1, hD1⟩ := hB
  rw [ht] at hP1
  obtain ⟨hP2, hD2⟩ := va_join hP hD isC isR hC hR hnr hdis hk1 hFc hP1 hD1
  exact kk r u H1 locs1 hw hP2 hD2 hS1
theorem ey_Vv (F : CallFix p m c cc nL s args Ts own) (hM : ey_Mv l y wy rm D cl kt (.ref b :: As) Wc postV W1 mc ms) (cw : CallW R s args own C index y bytes maxL ret wy rm mc ms n)
    (hK : va_K D cl kt s) (hG : ex_G s) (hP : va_P D cl ws H) (hD : va_D A ws) (hS : va_S A s.heap H locs) (hA : ∀ q, s.heap.size ≤ q → A q) (isC isR : List Nat) (hC : isC.map (fun i => ws[i]?) = Wc.map some) (hR : isR.map (fun i => ws[i]?) = wr.map some) (hnd : va_nd isC = true) (hnr : va_nd isR = true) (hdis : ∀ i ∈ isR, i ∉ isC)
    {ci q0 N : Nat} {T : u_T} {fs : List Value} (hci : cl[ci]? = some (C, T, N)) (hq : Wc[q0]? = some (b, .inr (ci, fs))) (hn : As.length = n) (hsz : ls.size = nL) (hst : st0 = As.reverse ++ .ref b :: rest) (hW : (rest.map fun v => v.category).sum ≤ 8) (hdg : decode cc pc = .ok (.invokevirtual index, 3)) (hf : cells + mc ≤ R.cells ∧ slots + ms ≤ R.slots)
    (kk : ∀ (u : S) (H1 : Heap) (locs1 : List Loc), postV u → va_P D cl (wr ++ W1 u) H1 → va_D A (wr ++ W1 u) → va_S A s.heap H1 locs1 → W p l e R s m args below meth c H1 locs1 (cells + mc) (slots + ms) Q (F0 m (pc + 3) ls rest)) : W p l e R s m args below meth c H locs cells slots Q (F0 m pc ls st0) := by
  have hPc := ey_P hP hC
  have hDc := hD.sub isC hnd hC
  have hFc := va_free hD hS hA isC hC
  refine va_callv (va_runV (As := As) (rest := rest) F (hM H.size) cw ⟨ey_blind, va_recv hK hPc hci hq, fun U hU hW9 => ⟨rfl, by rw [hU], by rw [hU]; exact hPc, va_K.moved hW9.alike hK, ex_G.warm hW9 hG, hDc.weaken (fun _ _ _ _ => trivial)⟩⟩ rfl hn hsz hst (lv_room hW) hdg hf) hS (fun q _ h => hFc q h) hFc (fun u t H1 locs1 ht hvm hw hB hz1 hk1 hS1 => ?_)
  obtain ⟨hP1, hD1⟩ := hB
  rw [ht] at hP1
  obtain ⟨hP2, hD2⟩ := va_join hP hD isC isR hC hR hnr hdis hk1 hFc hP1 hD1
  exact kk u H1 locs1 hw hP2 hD2 hS1
theorem ey_Si (F : CallFix p m c cc nL s args Ts own) (hM : ey_Mi l y wy rm D cl kt As Wc postI W1 mc ms) (cw : CallB R s args own index y bytes maxL ret wy rm mc ms n ∧ (Cond.static y).before args s = true)
    (hK : va_K D cl kt s) (hG : ex_G s) (hP : va_P D cl ws H) (hD : va_D A ws) (hS : va_S A s.heap H locs) (hA : ∀ q, s.heap.size ≤ q → A q) (isC isR : List Nat) (hC : isC.map (fun i => ws[i]?) = Wc.map some) (hR : isR.map (fun i => ws[i]?) = wr.map some) (hnd : va_nd isC = true) (hnr : va_nd isR = true) (hdis : ∀ i ∈ isR, i ∉ isC)
    (hn : As.length = n) (hsz : ls.size = nL) (hst : st0 = As.reverse ++ rest) (hW : (rest.map fun v => v.category).sum ≤ 8) (hdg : decode cc pc = .ok (.invokestatic index, 3)) (hf : cells + mc ≤ R.cells ∧ slots + ms ≤ R.slots)
    (kk : ∀ (r : Int32) (u : S) (H1 : Heap) (locs1 : List Loc), postI r u → va_P D cl (wr ++ W1 u) H1 → va_D A (wr ++ W1 u) → va_S A s.heap H1 locs1 → W p l e R s m args below meth c H1 locs1 (cells + mc) (slots + ms) Q (F0 m (pc + 3) ls (.int r :: rest))) : W p l e R s m args below meth c H locs cells slots Q (F0 m pc ls st0) := by
  have hPc := ey_P hP hC
  have hDc := hD.sub isC hnd hC
  have hFc := va_free hD hS hA isC hC
  refine va_calli (va_runS (As := As) (rest := rest) F (hM H.size) cw ⟨ey_blind, fun U hU hW9 => ⟨rfl, by rw [hU], by rw [hU]; exact hPc, va_K.moved hW9.alike hK, ex_G.warm hW9 hG, hDc.weaken (fun _ _ _ _ => trivial)⟩⟩ rfl hn hsz hst (lv_room hW) hdg hf) hS (fun q _ h => hFc q h) hFc (fun r u t H1 locs1 ht hvm hw hB hz1 hk1 hS1 => ?_)
  obtain ⟨hP1, hD1⟩ := hB
  rw [ht] at hP1
  obtain ⟨hP2, hD2⟩ := va_join hP hD isC isR hC hR hnr hdis hk1 hFc hP1 hD1
  exact kk r u H1 locs1 hw hP2 hD2 hS1
theorem ey_Sv (F : CallFix p m c cc nL s args Ts own) (hM : ey_Mv l y wy rm D cl kt As Wc postV W1 mc ms) (cw : CallB R s args own index y bytes maxL ret wy rm mc ms n ∧ (Cond.static y).before args s = true)
    (hK : va_K D cl kt s) (hG : ex_G s) (hP : va_P D cl ws H) (hD : va_D A ws) (hS : va_S A s.heap H locs) (hA : ∀ q, s.heap.size ≤ q → A q) (isC isR : List Nat) (hC : isC.map (fun i => ws[i]?) = Wc.map some) (hR : isR.map (fun i => ws[i]?) = wr.map some) (hnd : va_nd isC = true) (hnr : va_nd isR = true) (hdis : ∀ i ∈ isR, i ∉ isC)
    (hn : As.length = n) (hsz : ls.size = nL) (hst : st0 = As.reverse ++ rest) (hW : (rest.map fun v => v.category).sum ≤ 8) (hdg : decode cc pc = .ok (.invokestatic index, 3)) (hf : cells + mc ≤ R.cells ∧ slots + ms ≤ R.slots)
    (kk : ∀ (u : S) (H1 : Heap) (locs1 : List Loc), postV u → va_P D cl (wr ++ W1 u) H1 → va_D A (wr ++ W1 u) → va_S A s.heap H1 locs1 → W p l e R s m args below meth c H1 locs1 (cells + mc) (slots + ms) Q (F0 m (pc + 3) ls rest)) : W p l e R s m args below meth c H locs cells slots Q (F0 m pc ls st0) := by
  have hPc := ey_P hP hC
  have hDc := hD.sub isC hnd hC
  have hFc := va_free hD hS hA isC hC
  refine va_callv (va_runS (As := As) (rest := rest) F (hM H.size) cw ⟨ey_blind, fun U hU hW9 => ⟨rfl, by rw [hU], by rw [hU]; exact hPc, va_K.moved hW9.alike hK, ex_G.warm hW9 hG, hDc.weaken (fun _ _ _ _ => trivial)⟩⟩ rfl hn hsz hst (lv_room hW) hdg hf) hS (fun q _ h => hFc q h) hFc (fun u t H1 locs1 ht hvm hw hB hz1 hk1 hS1 => ?_)
  obtain ⟨hP1, hD1⟩ := hB
  rw [ht] at hP1
  obtain ⟨hP2, hD2⟩ := va_join hP hD isC isR hC hR hnr hdis hk1 hFc hP1 hD1
  exact kk u H1 locs1 hw hP2 hD2 hS1
theorem ey_SNi (F : CallFix p m c cc nL s args Ts own) (hM : ey_Mi l y wy rm D cl kt As Wc postI W1 mc ms) (cw : va_CN R s args own index y host bytes maxL ret wy rm mc ms n) (hst9 : (Cond.static y).before args s = true)
    (hK : va_K D cl kt s) (hG : ex_G s) (hP : va_P D cl ws H) (hD : va_D A ws) (hS : va_S A s.heap H locs) (hA : ∀ q, s.heap.size ≤ q → A q) (isC isR : List Nat) (hC : isC.map (fun i => ws[i]?) = Wc.map some) (hR : isR.map (fun i => ws[i]?) = wr.map some) (hnd : va_nd isC = true) (hnr : va_nd isR = true) (hdis : ∀ i ∈ isR, i ∉ isC)
    (hn : As.length = n) (hsz : ls.size = nL) (hst : st0 = As.reverse ++ rest) (hW : (rest.map fun v => v.category).sum ≤ 8) (hdg : decode cc pc = .ok (.invokestatic index, 3)) (hf : cells + mc ≤ R.cells ∧ slots + ms ≤ R.slots)
    (kk : ∀ (r : Int32) (u : S) (H1 : Heap) (locs1 : List Loc), postI r u → va_P D cl (wr ++ W1 u) H1 → va_D A (wr ++ W1 u) → va_S A s.heap H1 locs1 → W p l e R s m args below meth c H1 locs1 (cells + mc) (slots + ms) Q (F0 m (pc + 3) ls (.int r :: rest))) : W p l e R s m args below meth c H locs cells slots Q (F0 m pc ls st0) := by
  have hPc := ey_P hP hC
  have hDc := hD.sub isC hnd hC
  have hFc := va_free hD hS hA isC hC
  refine va_calli (va_runSN (As := As) (rest := rest) F (hM H.size) ⟨cw, hst9, trivial⟩ ⟨ey_blind, fun U hU hW9 => ⟨rfl, by rw [hU], by rw [hU]; exact hPc, va_K.moved hW9.alike hK, ex_G.warm hW9 hG, hDc.weaken (fun _ _ _ _ => trivial)⟩⟩ rfl hn hsz hst (lv_room hW) hdg hf) hS (fun q _ h => hFc q h) hFc (fun r u t H1 locs1 ht hvm hw hB hz1 hk1 hS1 => ?_)
  obtain ⟨hP1, hD1⟩ := hB
  rw [ht] at hP1
  obtain ⟨hP2, hD2⟩ := va_join hP hD isC isR hC hR hnr hdis hk1 hFc hP1 hD1
  exact kk r u H1 locs1 hw hP2 hD2 hS1
theorem ey_Iv (F : CallFix p m c cc nL s args Ts own) (hM : ey_Mv l y wy rm D cl kt (.ref b :: As) Wc postV W1 mc ms) (cw : CallB R s args own index y bytes maxL none wy rm mc ms n ∧ y.name = "<init>" ∧ (Cond.instanceMethod y).before args s = true)
    (hK : va_K D cl kt s) (hG : ex_G s) (hP : va_P D cl ws H) (hD : va_D A ws) (hS : va_S A s.heap H locs) (hA : ∀ q, s.heap.size ≤ q → A q) (isC isR : List Nat) (hC : isC.map (fun i => ws[i]?) = Wc.map some) (hR : isR.map (fun i => ws[i]?) = wr.map some) (hnd : va_nd isC = true) (hnr : va_nd isR = true) (hdis : ∀ i ∈ isR, i ∉ isC)
    (hn : As.length = n) (hsz : ls.size = nL) (hst : st0 = As.reverse ++ .ref b :: rest) (hW : (rest.map fun v => v.category).sum ≤ 8) (hdg : decode cc pc = .ok (.invokespecial index, 3)) (hf : cells + mc ≤ R.cells ∧ slots + ms ≤ R.slots)
    (kk : ∀ (u : S) (H1 : Heap) (locs1 : List Loc), postV u → va_P D cl (wr ++ W1 u) H1 → va_D A (wr ++ W1 u) → va_S A s.heap H1 locs1 → W p l e R s m args below meth c H1 locs1 (cells + mc) (slots + ms) Q (F0 m (pc + 3) ls rest)) : W p l e R s m args below meth c H locs cells slots Q (F0 m pc ls st0) := by
  have hPc := ey_P hP hC
  have hDc := hD.sub isC hnd hC
  have hFc := va_free hD hS hA isC hC
  refine va_callv (va_runI (As := As) (rest := rest) F (hM H.size) cw ⟨ey_blind, fun U hU hW9 => ⟨rfl, by rw [hU], by rw [hU]; exact hPc, va_K.moved hW9.alike hK, ex_G.warm hW9 hG, hDc.weaken (fun _ _ _ _ => trivial)⟩⟩ rfl hn hsz hst (lv_room hW) hdg hf) hS (fun q _ h => hFc q h) hFc (fun u t H1 locs1 ht hvm hw hB hz1 hk1 hS1 => ?_)
  obtain ⟨hP1, hD1⟩ := hB
  rw [ht] at hP1
  obtain ⟨hP2, hD2⟩ := va_join hP hD isC isR hC hR hnr hdis hk1 hFc hP1 hD1
  exact kk u H1 locs1 hw hP2 hD2 hS1
theorem ey_INv (F : CallFix p m c cc nL s args Ts own) (hM : ey_Mv l y wy rm D cl kt (.ref b :: As) Wc postV W1 mc ms) (cw : va_CN R s args own index y host bytes maxL none wy rm mc ms n) (hin9 : (Cond.instanceMethod y).before args s = true)
    (hK : va_K D cl kt s) (hG : ex_G s) (hP : va_P D cl ws H) (hD : va_D A ws) (hS : va_S A s.heap H locs) (hA : ∀ q, s.heap.size ≤ q → A q) (isC isR : List Nat) (hC : isC.map (fun i => ws[i]?) = Wc.map some) (hR : isR.map (fun i => ws[i]?) = wr.map some) (hnd : va_nd isC = true) (hnr : va_nd isR = true) (hdis : ∀ i ∈ isR, i ∉ isC)
    (hn : As.length = n) (hsz : ls.size = nL) (hst : st0 = As.reverse ++ .ref b :: rest) (hW : (rest.map fun v => v.category).sum ≤ 8) (hdg : decode cc pc = .ok (.invokespecial index, 3)) (hf : cells + mc ≤ R.cells ∧ slots + ms ≤ R.slots)
    (kk : ∀ (u : S) (H1 : Heap) (locs1 : List Loc), postV u → va_P D cl (wr ++ W1 u) H1 → va_D A (wr ++ W1 u) → va_S A s.heap H1 locs1 → W p l e R s m args below meth c H1 locs1 (cells + mc) (slots + ms) Q (F0 m (pc + 3) ls rest)) (hnm : y.name = "<init>" := by rfl) : W p l e R s m args below meth c H locs cells slots Q (F0 m pc ls st0) := by
  have hPc := ey_P hP hC
  have hDc := hD.sub isC hnd hC
  have hFc := va_free hD hS hA isC hC
  refine va_callv (va_runIN (As := As) (rest := rest) F (hM H.size) ⟨cw, hnm, hin9⟩ ⟨ey_blind, fun U hU hW9 => ⟨rfl, by rw [hU], by rw [hU]; exact hPc, va_K.moved hW9.alike hK, ex_G.warm hW9 hG, hDc.weaken (fun _ _ _ _ => trivial)⟩⟩ rfl hn hsz hst (lv_room hW) hdg hf) hS (fun q _ h => hFc q h) hFc (fun u t H1 locs1 ht hvm hw hB hz1 hk1 hS1 => ?_)
  obtain ⟨hP1, hD1⟩ := hB
  rw [ht] at hP1
  obtain ⟨hP2, hD2⟩ := va_join hP hD isC isR hC hR hnr hdis hk1 hFc hP1 hD1
  exact kk u H1 locs1 hw hP2 hD2 hS1
/-- ends: the world's cells by their places -/
theorem ey_iret {v : Int32} (hexec : p.tables.exec = Jvm.exec) (hb : c.code = cc) (hr : meth.sig.returnType = some .int) (hlocks : meth.locks = false) (hP : va_P D cl ws H) (hD : va_D A ws) (hS : va_S A s.heap H locs) (u : S) (is : List Nat) (hw : is.map (fun i => ws[i]?) = (W1 u).map some) (hnd : va_nd is = true) (hp : postI v u) (hdg : decode cc pc = .ok (.ireturn, 1)) (h1 : cells ≤ mc) (h2 : slots ≤ ms) :
    W p l e R s m args below meth c H locs cells slots (MQ below (va_Qi postI (fun u t => ey_Post D cl A (W1 u) t) A) args s mc ms A) (F0 m pc ls [.int v]) := by
  refine W.widen h1 h2 ?_
  exact W.iret (v := v) hexec hb hr (fun t ht _ => ⟨⟨v, u, rfl, hp, by rw [ht]; exact ey_P hP hw, hD.sub is hnd hw⟩, hS.F ht⟩) hS.2.2 hdg hlocks
theorem ey_zret {v : Int32} (hexec : p.tables.exec = Jvm.exec) (hb : c.code = cc) (hr : meth.sig.returnType = some .boolean) (hlocks : meth.locks = false) (hP : va_P D cl ws H) (hD : va_D A ws) (hS : va_S A s.heap H locs) (u : S) (is : List Nat) (hw : is.map (fun i => ws[i]?) = (W1 u).map some) (hnd : va_nd is = true) (hp : postI v u) (hdg : decode cc pc = .ok (.ireturn, 1)) (h1 : cells ≤ mc) (h2 : slots ≤ ms) (hn : narrow .boolean (.int v) = .int v) :
    W p l e R s m args below meth c H locs cells slots (MQ below (va_Qi postI (fun u t => ey_Post D cl A (W1 u) t) A) args s mc ms A) (F0 m pc ls [.int v]) := by
  refine W.widen h1 h2 ?_
  exact W.zret (v := v) hexec hb hr hn (fun t ht _ => ⟨⟨v, u, rfl, hp, by rw [ht]; exact ey_P hP hw, hD.sub is hnd hw⟩, hS.F ht⟩) hS.2.2 hdg hlocks
theorem ey_vret (hexec : p.tables.exec = Jvm.exec) (hb : c.code = cc) (hr : meth.sig.returnType = none) (hlocks : meth.locks = false) (hP : va_P D cl ws H) (hD : va_D A ws) (hS : va_S A s.heap H locs) (u : S) (is : List Nat) (hw : is.map (fun i => ws[i]?) = (W1 u).map some) (hnd : va_nd is = true) (hp : postV u) (hdg : decode cc pc = .ok (.return_, 1)) (h1 : cells ≤ mc) (h2 : slots ≤ ms) :
    W p l e R s m args below meth c H locs cells slots (MQ below (va_Qv postV (fun u t => ey_Post D cl A (W1 u) t) A) args s mc ms A) (F0 m pc ls []) := by
  refine W.widen h1 h2 ?_
  exact W.vret hexec hb hr (fun t ht _ => ⟨⟨u, rfl, hp, by rw [ht]; exact ey_P hP hw, hD.sub is hnd hw⟩, hS.F ht⟩) hS.2.2 hdg hlocks
end EYC
/-- what a method's body stands on, for its loops -/
def ey_Cx (p : Program) (s : State) (m : MethodId) (args : Array Value) (meth : Method) (c : Code) (cc : ByteArray) (nL : Nat) (own : String) (Ts : List Cond) (ret : Option FieldType) (A : Nat → Prop) : Prop :=
  p.tables.exec = Jvm.exec ∧ c.code = cc ∧ c.maxLocals = nL ∧ s.vm.findClass own = some m.cls ∧ (∀ w ∈ Ts, w.before args s = true) ∧ meth.sig.returnType = ret ∧ meth.locks = false ∧ (∀ q, s.heap.size ≤ q → A q)
/-- a counted loop's value: f from i on, k times -/
def ey_it {α : Type} (f : Nat → α → α) : Nat → Nat → α → α
  | _, 0, x => x
  | i, k + 1, x => ey_it f (i + 1) k (f i x)
theorem ey_it_succ {α : Type} (f : Nat → α → α) (i k : Nat) (x : α) : ey_it f i (k + 1) x = ey_it f (i + 1) k (f i x) := rfl
theorem ey_it_zero {α : Type} (f : Nat → α → α) (i : Nat) (x : α) : ey_it f i 0 x = x := rfl
theorem ey_in {x : Int32} {n : Nat} (hn : n < 2 ^ 31) (h1 : ¬ x < 0) (h2 : ¬ nI n ≤ x) : vp_in x n := by
  obtain ⟨j, hj, rfl⟩ := nI_of h1
  rw [nI_leI hn hj] at h2
  exact vp_in_nI (by omega) hn
theorem ey_in200 {x : Int32} (h1 : ¬ x < 0) (h2 : x < 200) : vp_in x 200 := by
  obtain ⟨j, hj, rfl⟩ := nI_of h1
  have h3 : nI j < nI 200 := h2
  rw [nI_ltI hj (by decide)] at h3
  exact vp_in_nI h3 (by decide)
theorem ey_cp {x : Int32} {n : Nat} (hn : n < 2 ^ 30) (h4 : 4096 ≤ n) (h1 : ¬ x < 0) (h2 : x ≤ nI n - 4096) : x.toNatClampNeg + (4096 : Int32).toNatClampNeg ≤ n := by
  obtain ⟨j, hj, rfl⟩ := nI_of h1
  have h3 : nI j ≤ nI (n - 4096) := by rw [← pk_sub h4]; exact h2
  rw [nI_leI hj (by omega)] at h3
  rw [nI_clamp hj, show (4096 : Int32).toNatClampNeg = 4096 from by decide]
  omega
theorem ey_cp2 {x : Int32} {n : Nat} (hn : n < 2 ^ 30) (h4 : 4096 ≤ n) (h1 : ¬ x < 0) (h2 : ¬ nI n - 4096 < x) : x.toNatClampNeg + (4096 : Int32).toNatClampNeg ≤ n := by
  obtain ⟨j, hj, rfl⟩ := nI_of h1
  have h3 : ¬ nI (n - 4096) < nI j := by rw [← pk_sub h4]; exact h2
  rw [nI_ltI (by omega) hj] at h3
  rw [nI_clamp hj, show (4096 : Int32).toNatClampNeg = 4096 from by decide]
  omega
theorem ey_fill_step {i k : Nat} {x : Int32} {f g : Nat → Int32} (hg : ∀ j, g j = if j < i then x else f j) (hk : k = i) : ∀ j, upd g k x j = if j < i + 1 then x else f j := by
  intro j
  subst hk
  by_cases h : j = k
  · subst h
    rw [pk_us, if_pos (Nat.lt_succ_self _)]
  · rw [pk_un h, hg j]
    by_cases h2 : j < k
    · rw [if_pos h2, if_pos (by omega)]
    · rw [if_neg h2, if_neg (by omega)]
theorem ey_lt24 {i : Nat} (h : i ≤ 24) (c : ¬ (24 : Int32) ≤ nI i) : i < 24 := by
  have h3 : ¬ nI 24 ≤ nI i := c
  rw [nI_leI (by decide) (by omega)] at h3
  omega
theorem ey_lt200 {i : Nat} (h : i ≤ 200) (c : ¬ (200 : Int32) ≤ nI i) : i < 200 := by
  have h3 : ¬ nI 200 ≤ nI i := c
  rw [nI_leI (by decide) (by omega)] at h3
  omega
theorem ey_max0 (x : Int32) : ¬ (if 0 < x then x else 0 : Int32) < 0 := by
  by_cases h : 0 < x
  · rw [if_pos h]
    intro h2
    have a := Int32.lt_iff_toInt_lt.mp h
    have b := Int32.lt_iff_toInt_lt.mp h2
    omega
  · rw [if_neg h]
    decide
theorem ey_ct_b {n : Nat} {b : Int32} (hn : n < 2 ^ 30) (c : ¬ nI n ≤ b) (h0 : ¬ b < 0) : ¬ b + 1 < 0 := by
  obtain ⟨j, hj, rfl⟩ := nI_of h0
  rw [nI_leI (by omega) hj] at c
  rw [nI_1]
  exact nI_pos (by omega)
theorem ey_ct_f {n fuel : Nat} {b : Int32} (hn : n < 2 ^ 30) (c : ¬ nI n ≤ b) (h0 : ¬ b < 0) (hf : n < fuel + 1 + b.toNatClampNeg) : n < fuel + (b + 1).toNatClampNeg := by
  obtain ⟨j, hj, rfl⟩ := nI_of h0
  rw [nI_leI (by omega) hj] at c
  rw [nI_clamp hj] at hf
  rw [nI_1, nI_clamp (by omega)]
  omega
theorem ey_ct_1 {n fuel : Nat} {b : Int32} (hn : n < 2 ^ 30) (c : ¬ nI n ≤ b) (h0 : ¬ b < 0) (hf : n < fuel + 1 + b.toNatClampNeg) : 1 ≤ fuel := by
  obtain ⟨j, hj, rfl⟩ := nI_of h0
  rw [nI_leI (by omega) hj] at c
  rw [nI_clamp hj] at hf
  omega
theorem ey_si0 {x : Int32} {n : Nat} (hn : n < 2 ^ 30) (h4 : 4 ≤ n) (h1 : ¬ x < 0) (h2 : x ≤ nI n - 4) : vp_in x n := by
  obtain ⟨j, hj, rfl⟩ := nI_of h1
  have h3 : nI j ≤ nI (n - 4) := by rw [← pk_sub h4]; exact h2
  rw [nI_leI hj (by omega)] at h3
  exact vp_in_nI (by omega) (by omega)
theorem ey_si1 {x : Int32} {n : Nat} (hn : n < 2 ^ 30) (h4 : 4 ≤ n) (h1 : ¬ x < 0) (h2 : x ≤ nI n - 4) : vp_in (x + 1) n := by
  obtain ⟨j, hj, rfl⟩ := nI_of h1
  have h3 : nI j ≤ nI (n - 4) := by rw [← pk_sub h4]; exact h2
  rw [nI_leI hj (by omega)] at h3
  rw [show nI j + 1 = nI (j + 1) from nI_add j 1]
  exact vp_in_nI (by omega) (by omega)
theorem ey_si2 {x : Int32} {n : Nat} (hn : n < 2 ^ 30) (h4 : 4 ≤ n) (h1 : ¬ x < 0) (h2 : x ≤ nI n - 4) : vp_in (x + 2) n := by
  obtain ⟨j, hj, rfl⟩ := nI_of h1
  have h3 : nI j ≤ nI (n - 4) := by rw [← pk_sub h4]; exact h2
  rw [nI_leI hj (by omega)] at h3
  rw [show nI j + 2 = nI (j + 2) from nI_add j 2]
  exact vp_in_nI (by omega) (by omega)
theorem ey_si3 {x : Int32} {n : Nat} (hn : n < 2 ^ 30) (h4 : 4 ≤ n) (h1 : ¬ x < 0) (h2 : x ≤ nI n - 4) : vp_in (x + 3) n := by
  obtain ⟨j, hj, rfl⟩ := nI_of h1
  have h3 : nI j ≤ nI (n - 4) := by rw [← pk_sub h4]; exact h2
  rw [nI_leI hj (by omega)] at h3
  rw [show nI j + 3 = nI (j + 3) from nI_add j 3]
  exact vp_in_nI (by omega) (by omega)
theorem ey_ltc {i : Nat} {y c : Int32} (h : i ≤ 200) (hc : c = if y < 200 then y else 200) (h1 : ¬ c ≤ nI i) : i < 200 := by
  rcases Nat.lt_or_ge i 200 with q | q
  · exact q
  · have e : i = 200 := by omega
    subst e
    refine absurd ?_ h1
    rw [hc]
    by_cases h2 : y < 200
    · rw [if_pos h2]
      have a := Int32.lt_iff_toInt_lt.mp h2
      exact Int32.le_iff_toInt_le.mpr (by rw [nI_toInt (by decide)]; have b : (200 : Int32).toInt = 200 := by decide
                                          omega)
    · rw [if_neg h2]
      decide
theorem ey_co_i {y : Int32} {i : Nat} (hrow : ∃ k : Nat, k ≤ 128 ∧ y = nI k) (h : i ≤ 128) (c : ¬ y ≤ nI i) : i + 1 ≤ 128 := by
  obtain ⟨k, hk, e⟩ := hrow
  rw [e, nI_leI (by omega) (by omega)] at c
  omega
theorem ey_inlt {x : Int32} {n : Nat} {k : Int32} (hk : k = nI n ∧ n < 2 ^ 31) (h1 : ¬ x < 0) (h2 : x < k) : vp_in x n := by
  obtain ⟨j, hj, rfl⟩ := nI_of h1
  rw [hk.1, nI_ltI hj hk.2] at h2
  exact vp_in_nI h2 hk.2
theorem ey_dec1 {y : Int32} (h : ¬ y < 0) : -1 ≤ (y + -1).toInt := by
  obtain ⟨j, hj, rfl⟩ := nI_of h
  cases j with
  | zero => decide
  | succ j =>
    rw [pk_m1, nI_toInt (by omega)]
    omega
theorem ey_dec2 {y : Int32} {k : Nat} (h : ¬ y < 0) (h2 : y.toInt + 2 ≤ ((k + 1 : Nat) : Int)) : (y + -1).toInt + 2 ≤ (k : Int) := by
  obtain ⟨j, hj, rfl⟩ := nI_of h
  rw [nI_toInt hj] at h2
  cases j with
  | zero =>
    have e : (nI 0 + -1).toInt = -1 := by decide
    rw [e]
    omega
  | succ j =>
    rw [pk_m1, nI_toInt (by omega)]
    omega
theorem ey_put1 {x : Int32} (h1 : ¬ x < 1) (h2 : x ≤ 8) : -1 ≤ (x - 1).toInt := by
  have a := Int32.le_iff_toInt_le.mp h2
  have b : ¬ x.toInt < (1 : Int32).toInt := fun h => h1 (Int32.lt_iff_toInt_lt.mpr h)
  have c1 : (1 : Int32).toInt = 1 := by decide
  have c8 : (8 : Int32).toInt = 8 := by decide
  rw [c1] at b
  rw [c8] at a
  have e : (x - 1).toInt = x.toInt - 1 := by
    rw [Int32.toInt_sub, c1]
    exact Int.bmod_eq_of_le (by omega) (by omega)
  omega
theorem ey_put2 {x : Int32} (h1 : ¬ x < 1) (h2 : x ≤ 8) : (x - 1).toInt + 2 ≤ ((9 : Nat) : Int) := by
  have a := Int32.le_iff_toInt_le.mp h2
  have b : ¬ x.toInt < (1 : Int32).toInt := fun h => h1 (Int32.lt_iff_toInt_lt.mpr h)
  have c1 : (1 : Int32).toInt = 1 := by decide
  have c8 : (8 : Int32).toInt = 8 := by decide
  rw [c1] at b
  rw [c8] at a
  have e : (x - 1).toInt = x.toInt - 1 := by
    rw [Int32.toInt_sub, c1]
    exact Int.bmod_eq_of_le (by omega) (by omega)
  omega
theorem ey_fl_x {x : Int32} (h1 : ¬ x < 1) : ¬ x < 0 := by
  intro h
  have a := Int32.lt_iff_toInt_lt.mp h
  have b : ¬ x.toInt < (1 : Int32).toInt := fun h => h1 (Int32.lt_iff_toInt_lt.mpr h)
  have c1 : (1 : Int32).toInt = 1 := by decide
  have c0 : (0 : Int32).toInt = 0 := by decide
  rw [c1] at b
  rw [c0] at a
  omega
theorem ey_fl_i {x : Int32} {i : Nat} (hx : ¬ x < 0) (hin : i ≤ x.toNatClampNeg) (c : ¬ x ≤ nI i) : i + 1 ≤ x.toNatClampNeg := by
  obtain ⟨j, hj, rfl⟩ := nI_of hx
  rw [nI_clamp hj] at hin ⊢
  rw [nI_leI hj (by omega)] at c
  omega
theorem ey_one : ¬ (1 : Int32) = 0 := by decide
