set_option maxHeartbeats 4000000 in
set_option maxRecDepth 100000 in
theorem c_tp_room (l : Launch) (dC : Nat → ClassId) (dI : Nat → Nat → Nat) (cI cB cJ cZ : ClassId) (h0 h1 : Nat) (ln : Int32) (n : Nat) (f : ep_F) (x : Int32) : ey_Mi l y_Tp_hasRoomFor w_Tp_hasRoomFor { frames := 0, cells := 0, slots := 0, locals := 0 } (dC, dI) vwCl (ey_kt cI cB cJ cZ) [.ref h0, .int x] [(h0, .inr (2, [.ref h1, .int ln])), (h1, .inl (cB, n, .inl f))] (fun (r : Int32) (u : Unit) => r = ep_room n ln x) (fun (u : Unit) => [(h0, .inr (2, [.ref h1, .int ln])), (h1, .inl (cB, n, .inl f))]) 0 0 := by
  intro sz
  refine Met.ofW (cc := b_Tp_hasRoomFor) (maxL := 2) (ret := (some .boolean)) (by decide) rfl ?_
  intro p e s m args below meth c s₁ B hml hv
  obtain ⟨rfl, hsz, hP, hK, hG, hD0⟩ := hv
  have hx := B.exec
  have hb := B.bytes
  have hr := B.returns
  have hts := fun (w : Cond) (h : w ∈ ew_T) => atoms_spec (ws := w_Tp_hasRoomFor) B.pre w (List.mem_cons_of_mem _ h)
  have hown : s.vm.findClass R_Tp = some m.cls := findClass_of_methodNamed B.named
  have hlocks := B.notSynchronized
  subst hsz
  have hD := hD0.self (sz := s.heap.size)
  generalize hAe : va_A [(h0, .inr (2, [.ref h1, .int ln])), (h1, .inl (cB, n, .inl f))] s.heap.size = A at hD ⊢
  have hA : ∀ q : Nat, s.heap.size ≤ q → A q := fun q h => by rw [← hAe]; exact Or.inr h
  have hS : va_S A s.heap s.heap [] := va_S.rf
  have hP : va_P (dC, dI) vwCl [(h0, .inr (2, [.ref h1, .int ln])), (h1, .inl (cB, n, .inl f))] s.heap := hP
  have hl := lv_entry ([.ref h0, .int x]) (n := 2) (Nat.le_of_ble_eq_true rfl)
  rw [lg_entry_eq]
  generalize (lg_sl ([.ref h0, .int x]) ++ List.replicate (2 - (lg_sl ([.ref h0, .int x])).length) Slot.unset).toArray = ls at hl ⊢
  have hl : lv_has ls 2 [(0, .ref h0), (1, .int x)] := hl
  refine lv_iload_n hx hb d_Tp_hasRoomFor_0 rfl (lv_at hl 1 rfl) ?_
  refine lv_aload_n hx hb d_Tp_hasRoomFor_1 rfl (lv_at hl 0 rfl) ?_
  refine va_get (D := (dC, dI)) (ci := 2) (v := .ref h1) (C := R_Tp) (T := T_Tp) (N := 2) hx hb hts in_Tp hown hK hP 0 rfl rfl 0 (by decide) (hts _ ew_68) (fun _ h9 => h9) rfl d_Tp_hasRoomFor_2 ?_
  refine va_alen hx hb hK hP 1 1 rfl rfl (v := nI n) rfl d_Tp_hasRoomFor_5 ?_
  refine lv_aload_n hx hb d_Tp_hasRoomFor_6 rfl (lv_at hl 0 rfl) ?_
  refine va_get (D := (dC, dI)) (ci := 2) (v := .int ln) (C := R_Tp) (T := T_Tp) (N := 2) hx hb hts in_Tp hown hK hP 0 rfl rfl 1 (by decide) (hts _ ew_70) (fun _ h9 => h9) rfl d_Tp_hasRoomFor_7 ?_
  refine lv_isub hx hb d_Tp_hasRoomFor_10 ?_
  refine lv_icmp_gt (tgt := 18) hx hb d_Tp_hasRoomFor_11 (by decide) (fun c_11 => ?_) (fun c_11 => ?_)
  · refine lv_iconst (v := 0) hx hb d_Tp_hasRoomFor_18 (by decide) ?_
    exact ey_zret (W1 := fun (u : Unit) => [(h0, .inr (2, [.ref h1, .int ln])), (h1, .inl (cB, n, .inl f))]) hx hb hr hlocks hP hD hS () [0, 1] rfl (by decide) (by first | contradiction | (simp only [ep_room, ↓reduceIte, not_true_eq_false, not_false_eq_true, c_11])) d_Tp_hasRoomFor_19 (Nat.le_of_ble_eq_true rfl) (Nat.le_of_ble_eq_true rfl) rfl
  · refine lv_iconst (v := 1) hx hb d_Tp_hasRoomFor_14 (by decide) ?_
    refine lv_goto (tgt := 19) hx hb d_Tp_hasRoomFor_15 (by decide) ?_
    exact ey_zret (W1 := fun (u : Unit) => [(h0, .inr (2, [.ref h1, .int ln])), (h1, .inl (cB, n, .inl f))]) hx hb hr hlocks hP hD hS () [0, 1] rfl (by decide) (by first | contradiction | (simp only [ep_room, ↓reduceIte, not_true_eq_false, not_false_eq_true, c_11])) d_Tp_hasRoomFor_19 (Nat.le_of_ble_eq_true rfl) (Nat.le_of_ble_eq_true rfl) rfl
set_option maxHeartbeats 4000000 in
set_option maxRecDepth 100000 in
theorem c_tp_app (l : Launch) (dC : Nat → ClassId) (dI : Nat → Nat → Nat) (cI cB cJ cZ : ClassId) (h0 h1 : Nat) (ln : Int32) (n : Nat) (f : ep_F) (x : Int32) (hn : n < 2 ^ 31) : ey_Mv l y_Tp_append w_Tp_append { frames := 0, cells := 0, slots := 0, locals := 0 } (dC, dI) vwCl (ey_kt cI cB cJ cZ) [.ref h0, .int x] [(h0, .inr (2, [.ref h1, .int ln])), (h1, .inl (cB, n, .inl f))] (fun (u : ep_T) => u = ep_app n (f, ln) x) (fun (u : ep_T) => [(h0, .inr (2, [.ref h1, .int u.2])), (h1, .inl (cB, n, .inl u.1))]) 0 0 := by
  intro sz
  refine Met.ofW (cc := b_Tp_append) (maxL := 2) (ret := none) (by decide) rfl ?_
  intro p e s m args below meth c s₁ B hml hv
  obtain ⟨rfl, hsz, hP, hK, hG, hD0⟩ := hv
  have hx := B.exec
  have hb := B.bytes
  have hr := B.returns
  have hts := fun (w : Cond) (h : w ∈ ew_T) => atoms_spec (ws := w_Tp_append) B.pre w (List.mem_cons_of_mem _ h)
  have hown : s.vm.findClass R_Tp = some m.cls := findClass_of_methodNamed B.named
  have hlocks := B.notSynchronized
  subst hsz
  have hD := hD0.self (sz := s.heap.size)
  generalize hAe : va_A [(h0, .inr (2, [.ref h1, .int ln])), (h1, .inl (cB, n, .inl f))] s.heap.size = A at hD ⊢
  have hA : ∀ q : Nat, s.heap.size ≤ q → A q := fun q h => by rw [← hAe]; exact Or.inr h
  have hS : va_S A s.heap s.heap [] := va_S.rf
  have hP : va_P (dC, dI) vwCl [(h0, .inr (2, [.ref h1, .int ln])), (h1, .inl (cB, n, .inl f))] s.heap := hP
  have hl := lv_entry ([.ref h0, .int x]) (n := 2) (Nat.le_of_ble_eq_true rfl)
  rw [lg_entry_eq]
  generalize (lg_sl ([.ref h0, .int x]) ++ List.replicate (2 - (lg_sl ([.ref h0, .int x])).length) Slot.unset).toArray = ls at hl ⊢
  have hl : lv_has ls 2 [(0, .ref h0), (1, .int x)] := hl
  refine lv_aload_n hx hb d_Tp_append_0 rfl (lv_at hl 0 rfl) ?_
  refine va_get (D := (dC, dI)) (ci := 2) (v := .int ln) (C := R_Tp) (T := T_Tp) (N := 2) hx hb hts in_Tp hown hK hP 0 rfl rfl 1 (by decide) (hts _ ew_70) (fun _ h9 => h9) rfl d_Tp_append_1 ?_
  refine lv_if_lt (tgt := 39) hx hb d_Tp_append_4 (by decide) (fun c_4 => ?_) (fun c_4 => ?_)
  · exact ey_vret (W1 := fun (u : ep_T) => [(h0, .inr (2, [.ref h1, .int u.2])), (h1, .inl (cB, n, .inl u.1))]) hx hb hr hlocks hP hD hS (f, ln) [0, 1] rfl (by decide) (by first | contradiction | (simp only [ep_app, ↓reduceIte, not_true_eq_false, not_false_eq_true, c_4])) d_Tp_append_39 (Nat.le_of_ble_eq_true rfl) (Nat.le_of_ble_eq_true rfl)
  · refine lv_aload_n hx hb d_Tp_append_7 rfl (lv_at hl 0 rfl) ?_
    refine va_get (D := (dC, dI)) (ci := 2) (v := .int ln) (C := R_Tp) (T := T_Tp) (N := 2) hx hb hts in_Tp hown hK hP 0 rfl rfl 1 (by decide) (hts _ ew_70) (fun _ h9 => h9) rfl d_Tp_append_8 ?_
    refine lv_aload_n hx hb d_Tp_append_11 rfl (lv_at hl 0 rfl) ?_
    refine va_get (D := (dC, dI)) (ci := 2) (v := .ref h1) (C := R_Tp) (T := T_Tp) (N := 2) hx hb hts in_Tp hown hK hP 0 rfl rfl 0 (by decide) (hts _ ew_68) (fun _ h9 => h9) rfl d_Tp_append_12 ?_
    refine va_alen hx hb hK hP 1 1 rfl rfl (v := nI n) rfl d_Tp_append_15 ?_
    refine lv_icmp_ge (tgt := 39) hx hb d_Tp_append_16 (by decide) (fun c_16 => ?_) (fun c_16 => ?_)
    · exact ey_vret (W1 := fun (u : ep_T) => [(h0, .inr (2, [.ref h1, .int u.2])), (h1, .inl (cB, n, .inl u.1))]) hx hb hr hlocks hP hD hS (f, ln) [0, 1] rfl (by decide) (by first | contradiction | (simp only [ep_app, ↓reduceIte, not_true_eq_false, not_false_eq_true, c_4, c_16])) d_Tp_append_39 (Nat.le_of_ble_eq_true rfl) (Nat.le_of_ble_eq_true rfl)
    · refine lv_aload_n hx hb d_Tp_append_19 rfl (lv_at hl 0 rfl) ?_
      refine va_get (D := (dC, dI)) (ci := 2) (v := .ref h1) (C := R_Tp) (T := T_Tp) (N := 2) hx hb hts in_Tp hown hK hP 0 rfl rfl 0 (by decide) (hts _ ew_68) (fun _ h9 => h9) rfl d_Tp_append_20 ?_
      refine lv_aload_n hx hb d_Tp_append_23 rfl (lv_at hl 0 rfl) ?_
      refine va_get (D := (dC, dI)) (ci := 2) (v := .int ln) (C := R_Tp) (T := T_Tp) (N := 2) hx hb hts in_Tp hown hK hP 0 rfl rfl 1 (by decide) (hts _ ew_70) (fun _ h9 => h9) rfl d_Tp_append_24 ?_
      refine lv_iload_n hx hb d_Tp_append_27 rfl (lv_at hl 1 rfl) ?_
      refine va_bast hx hb hK hP hD hS 1 1 rfl rfl (ey_in hn c_4 c_16) d_Tp_append_28 (fun H locs hP hD hS => ?_)
      have hP : va_P (dC, dI) vwCl [(h0, .inr (2, [.ref h1, .int ln])), (h1, .inl (cB, n, .inl (upd f ln.toNatClampNeg (vp_nar .byte x))))] H := hP
      have hD : va_D A [(h0, .inr (2, [.ref h1, .int ln])), (h1, .inl (cB, n, .inl (upd f ln.toNatClampNeg (vp_nar .byte x))))] := hD
      refine lv_aload_n hx hb d_Tp_append_29 rfl (lv_at hl 0 rfl) ?_
      refine lv_dup hx hb d_Tp_append_30 rfl ?_
      refine va_get (D := (dC, dI)) (ci := 2) (v := .int ln) (C := R_Tp) (T := T_Tp) (N := 2) hx hb hts in_Tp hown hK hP 0 rfl rfl 1 (by decide) (hts _ ew_70) (fun _ h9 => h9) rfl d_Tp_append_31 ?_
      refine lv_iconst (v := 1) hx hb d_Tp_append_34 (by decide) ?_
      refine lv_iadd hx hb d_Tp_append_35 ?_
      refine va_put (D := (dC, dI)) (ci := 2) (v := .int (ln + 1)) (ty := .int) (C := R_Tp) (T := T_Tp) (N := 2) hx hb hts in_Tp t_Tp t_Tp_ok n_Tp hown hK hP hD hS 0 rfl rfl 1 (by decide) (hts _ ew_70) (fun _ h9 => h9) rfl (by decide +kernel) rfl rfl (Nat.le_of_ble_eq_true rfl) d_Tp_append_36 (fun H locs hP hD hS => ?_)
      have hP : va_P (dC, dI) vwCl [(h0, .inr (2, [.ref h1, .int (ln + 1)])), (h1, .inl (cB, n, .inl (upd f ln.toNatClampNeg (vp_nar .byte x))))] H := hP
      have hD : va_D A [(h0, .inr (2, [.ref h1, .int (ln + 1)])), (h1, .inl (cB, n, .inl (upd f ln.toNatClampNeg (vp_nar .byte x))))] := hD
      exact ey_vret (W1 := fun (u : ep_T) => [(h0, .inr (2, [.ref h1, .int u.2])), (h1, .inl (cB, n, .inl u.1))]) hx hb hr hlocks hP hD hS (upd f ln.toNatClampNeg (vp_nar .byte x), ln + 1) [0, 1] rfl (by decide) (by first | contradiction | (simp only [ep_app, ↓reduceIte, not_true_eq_false, not_false_eq_true, c_4, c_16])) d_Tp_append_39 (Nat.le_of_ble_eq_true rfl) (Nat.le_of_ble_eq_true rfl)
