/-! the law's own methods: they catch what the program throws -/
def ey_PreN (D : va_G) (cl : List vw_C) (kt : List (ClassId × FieldType)) (W9 : va_W) (sz : Nat) (U : State) : Prop := va_Nc "java/lang/IllegalStateException" "java/lang/IllegalArgumentException" U ∧ ey_PreX D cl kt W9 sz U
def ey_Hn (l : Launch) (y : MethodName) (ws : List Cond) (rm : Room) (D : va_G) (cl : List vw_C) (kt : List (ClassId × FieldType)) (av : List Value) (W0 : va_W) {S : Type} (post : Int32 → S → Prop) (W1 : S → va_W) (mc ms : Nat) : Prop :=
  ∀ sz : Nat, Met l y ws rm (va_Pc av (ey_PreN D cl kt W0 sz)) (va_Qi post (fun u t => ey_Post D cl (va_A W0 sz) (W1 u) t) (va_A W0 sz)) mc ms (va_A W0 sz)
theorem ey_blindN {D : va_G} {cl : List vw_C} {kt : List (ClassId × FieldType)} {W9 : va_W} {sz : Nat} {av : List Value} : FrameBlind (va_Pc av (ey_PreN D cl kt W9 sz)) := fun a U g mk q => by
  obtain ⟨q0, qN, qZ, q1, qP, qK, qG, qD⟩ := q
  exact ⟨q0, qN.moved (u := U) (U := U.calling g mk a) (Vm.Alike.refl U.vm), qZ.moved (u := U) (U := U.calling g mk a) (Vm.Alike.refl U.vm), q1, qP, va_K.moved (u := U) (U := U.calling g mk a) (Vm.Alike.refl U.vm) qK, ex_G.same (u := U) (U := U.calling g mk a) rfl qG, qD⟩
section EYN
variable {p : Program} {l : Launch} {e : Env} {R : Room} {s : State} {m : MethodId} {args : Array Value} {below : List Frame} {meth : Method} {c : Code} {H : Heap} {locs : List Loc} {cells slots : Nat} {Q : State → Prop}
variable {cc bytes : ByteArray} {nL maxL mc ms n index pc : Nat} {ret : Option FieldType} {wy : List Cond} {rm : Room} {Ts : List Cond} {own : String} {y : MethodName} {As rest st0 : List Value} {ls : Array Slot} {hh : List (Nat × Nat × Nat × Nat)}
variable {D : va_G} {cl : List vw_C} {kt : List (ClassId × FieldType)} {ws Wc wr : va_W} {A : Nat → Prop} {S : Type} {postI : Int32 → S → Prop} {W1 : S → va_W}
/-- the law's call of one of its own that catches -/
theorem ey_SWn (F : CallFix p m c cc nL s args Ts own) (hM : ey_Hn l y wy rm D cl kt As Wc postI W1 mc ms) (cw : vx_CSW R s args own index y bytes maxL ret hh wy rm mc ms n)
    (hK : va_K D cl kt s) (hG : ex_G s) (hN : va_Nc "java/lang/IllegalStateException" "java/lang/IllegalArgumentException" s) (hZ : ey_Z A s s.heap) (hP : va_P D cl ws H) (hD : va_D A ws) (hS : va_S A s.heap H locs) (hA : ∀ q, s.heap.size ≤ q → A q) (isC isR : List Nat) (hC : isC.map (fun i => ws[i]?) = Wc.map some) (hR : isR.map (fun i => ws[i]?) = wr.map some) (hnd : va_nd isC = true) (hnr : va_nd isR = true) (hdis : ∀ i ∈ isR, i ∉ isC)
    (hn : As.length = n) (hsz : ls.size = nL) (hst : st0 = As.reverse ++ rest) (hW : (rest.map fun v => v.category).sum ≤ 8) (hdg : decode cc pc = .ok (.invokestatic index, 3)) (hf : cells + mc ≤ R.cells ∧ slots + ms ≤ R.slots)
    (kk : ∀ (r : Int32) (u : S) (H1 : Heap) (locs1 : List Loc), postI r u → va_P D cl (wr ++ W1 u) H1 → va_D A (wr ++ W1 u) → va_S A s.heap H1 locs1 → W p l e R s m args below meth c H1 locs1 (cells + mc) (slots + ms) Q (F0 m (pc + 3) ls (.int r :: rest))) : W p l e R s m args below meth c H locs cells slots Q (F0 m pc ls st0) := by
  have hPc := ey_P hP hC
  have hDc := hD.sub isC hnd hC
  have hFc := va_free hD hS hA isC hC
  have hZc := (hZ.at hS).narrow hFc
  refine va_calli (vx_runSW (As := As) (rest := rest) F (hM H.size) cw ⟨ey_blindN, fun U hU hW9 => ⟨rfl, hN.moved hW9.alike, by rw [hU]; exact hZc.moved hW9.alike, by rw [hU], by rw [hU]; exact hPc, va_K.moved hW9.alike hK, ex_G.warm hW9 hG, hDc.weaken (fun _ _ _ _ => trivial)⟩⟩ rfl hn hsz hst (lv_room hW) hdg hf) hS (fun q _ h => hFc q h) hFc (fun r u t H1 locs1 ht hvm hw hB hz1 hk1 hS1 => ?_)
  obtain ⟨hP1, hD1⟩ := hB
  rw [ht] at hP1
  obtain ⟨hP2, hD2⟩ := va_join hP hD isC isR hC hR hnr hdis hk1 hFc hP1 hD1
  exact kk r u H1 locs1 hw hP2 hD2 hS1
end EYN
theorem ep_kdown_n1 (dn : Int32) : ¬ ep_kdown dn = 1 := by
  unfold ep_kdown
  split <;> decide
theorem ep_kext_n2 (ex i w : Int32) : ¬ ep_kext ex i w = 2 := by
  unfold ep_kext
  repeat' split
  all_goals decide
theorem ep_kbyte_n2 (ex i k sz : Int32) : ¬ ep_kbyte ex i k sz = 2 := by
  unfold ep_kbyte
  repeat' split
  all_goals decide
theorem ey_in0 : vp_in 0 1 := by
  unfold vp_in
  decide
