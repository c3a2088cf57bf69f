set_option maxHeartbeats 4000000 in
set_option maxRecDepth 100000 in
theorem c_ed_drop (l : Launch) (dC : Nat → ClassId) (dI : Nat → Nat → Nat) (cI cB cJ cZ : ClassId) (hl9 : l.stackTraces = false) (d0 pl tp wi pg te nw nx : Nat) (pb : Nat) (dn wr pw : Int32) (tb : Nat) (ln : Int32) : ey_Xi l y_D_drop w_D_drop { frames := 6, cells := 1, slots := 6, locals := 90 } (dC, dI) vwCl (ey_kt cI cB cJ cZ) [.ref d0] [(d0, .inr (3, [.ref pl, .ref tp, .ref wi, .ref pg, .ref te, .ref nw, .ref nx])), (pl, .inr (1, [.ref pb, .int dn, .int wr, .int pw])), (tp, .inr (2, [.ref tb, .int ln]))] (fun (r : Int32) (u : Unit) => ep_kdown dn = 0 ∧ r = ln) (fun (u : Unit) => [(d0, .inr (3, [.ref pl, .ref tp, .ref wi, .ref pg, .ref te, .ref nw, .ref nx])), (pl, .inr (1, [.ref pb, .int dn, .int wr, .int pw])), (tp, .inr (2, [.ref tb, .int 0]))]) (fun E => (E = "java/lang/IllegalArgumentException" ∧ ep_kdown dn = 1) ∨ (E = "java/lang/IllegalStateException" ∧ ep_kdown dn = 2)) 1 6 := by
  intro sz
  refine vx_ofW (cc := b_D_drop) (maxL := 2) (ret := (some .int)) (by decide) rfl ?_
  intro p e s m args below meth c s₁ B hml hno hv
  obtain ⟨rfl, hZ, hsz, hP, hK, hG, hD0⟩ := hv
  have hx := B.exec
  have hb := B.bytes
  have hr := B.returns
  have hts := fun (w : Cond) (h : w ∈ ew_T) => atoms_spec (ws := w_D_drop) B.pre w (List.mem_cons_of_mem _ h)
  have hown : s.vm.findClass R_D = some m.cls := findClass_of_methodNamed B.named
  have hlocks := B.notSynchronized
  subst hsz
  have hD := hD0.self (sz := s.heap.size)
  generalize hAe : va_A [(d0, .inr (3, [.ref pl, .ref tp, .ref wi, .ref pg, .ref te, .ref nw, .ref nx])), (pl, .inr (1, [.ref pb, .int dn, .int wr, .int pw])), (tp, .inr (2, [.ref tb, .int ln]))] s.heap.size = A at hD hZ ⊢
  have hA : ∀ q : Nat, s.heap.size ≤ q → A q := fun q h => by rw [← hAe]; exact Or.inr h
  have hS : va_S A s.heap s.heap [] := va_S.rf
  have hP : va_P (dC, dI) vwCl [(d0, .inr (3, [.ref pl, .ref tp, .ref wi, .ref pg, .ref te, .ref nw, .ref nx])), (pl, .inr (1, [.ref pb, .int dn, .int wr, .int pw])), (tp, .inr (2, [.ref tb, .int ln]))] s.heap := hP
  have hl := lv_entry ([.ref d0]) (n := 2) (Nat.le_of_ble_eq_true rfl)
  rw [lg_entry_eq]
  generalize (lg_sl ([.ref d0]) ++ List.replicate (2 - (lg_sl ([.ref d0])).length) Slot.unset).toArray = ls at hl ⊢
  have hl : lv_has ls 2 [(0, .ref d0)] := hl
  refine lv_aload_n hx hb d_D_drop_0 rfl (lv_at hl 0 rfl) ?_
  refine va_get (D := (dC, dI)) (ci := 3) (v := .ref pl) (C := R_D) (T := T_D) (N := 7) hx hb hts in_D hown hK hP 0 rfl rfl 0 (by decide) (hts _ ew_109) (fun _ h9 => h9) rfl d_D_drop_1 ?_
  refine va_get (D := (dC, dI)) (ci := 1) (v := .int dn) (C := R_P) (T := T_P) (N := 4) hx hb hts in_P hown hK hP 1 rfl rfl 1 (by decide) (hts _ ew_48) (fun _ h9 => h9) rfl d_D_drop_4 ?_
  refine lv_if_eq (tgt := 20) hx hb d_D_drop_7 (by decide) (fun c_7 => ?_) (fun c_7 => ?_)
  · refine lv_aload_n hx hb d_D_drop_20 rfl (lv_at hl 0 rfl) ?_
    refine va_get (D := (dC, dI)) (ci := 3) (v := .ref tp) (C := R_D) (T := T_D) (N := 7) hx hb hts in_D hown hK hP 0 rfl rfl 1 (by decide) (hts _ ew_110) (fun _ h9 => h9) rfl d_D_drop_21 ?_
    refine va_get (D := (dC, dI)) (ci := 2) (v := .int ln) (C := R_Tp) (T := T_Tp) (N := 2) hx hb hts in_Tp hown hK hP 2 rfl rfl 1 (by decide) (hts _ ew_71) (fun _ h9 => h9) rfl d_D_drop_24 ?_
    refine lv_istore_n (lv' := [(1, .int ln), (0, .ref d0)]) hx hb d_D_drop_27 rfl hl (by decide) rfl (fun ls hl => ?_)
    refine lv_aload_n hx hb d_D_drop_28 rfl (lv_at hl 1 rfl) ?_
    refine va_get (D := (dC, dI)) (ci := 3) (v := .ref tp) (C := R_D) (T := T_D) (N := 7) hx hb hts in_D hown hK hP 0 rfl rfl 1 (by decide) (hts _ ew_110) (fun _ h9 => h9) rfl d_D_drop_29 ?_
    refine lv_iconst (v := 0) hx hb d_D_drop_32 (by decide) ?_
    refine va_put (D := (dC, dI)) (ci := 2) (v := .int 0) (ty := .int) (C := R_Tp) (T := T_Tp) (N := 2) hx hb hts in_Tp t_Tp t_Tp_ok n_Tp hown hK hP hD hS 2 rfl rfl 1 (by decide) (hts _ ew_71) (fun _ h9 => h9) rfl (by decide +kernel) rfl rfl (Nat.le_of_ble_eq_true rfl) d_D_drop_33 (fun H locs hP hD hS => ?_)
    have hP : va_P (dC, dI) vwCl [(d0, .inr (3, [.ref pl, .ref tp, .ref wi, .ref pg, .ref te, .ref nw, .ref nx])), (pl, .inr (1, [.ref pb, .int dn, .int wr, .int pw])), (tp, .inr (2, [.ref tb, .int 0]))] H := hP
    have hD : va_D A [(d0, .inr (3, [.ref pl, .ref tp, .ref wi, .ref pg, .ref te, .ref nw, .ref nx])), (pl, .inr (1, [.ref pb, .int dn, .int wr, .int pw])), (tp, .inr (2, [.ref tb, .int 0]))] := hD
    refine lv_iload_n hx hb d_D_drop_36 rfl (lv_at hl 0 rfl) ?_
    refine vx_ret ?_
    exact ey_iret (W1 := fun (u : Unit) => [(d0, .inr (3, [.ref pl, .ref tp, .ref wi, .ref pg, .ref te, .ref nw, .ref nx])), (pl, .inr (1, [.ref pb, .int dn, .int wr, .int pw])), (tp, .inr (2, [.ref tb, .int 0]))]) hx hb hr hlocks hP hD hS () [0, 1, 2] rfl (by decide) (⟨by simp only [ep_kdown, ↓reduceIte, not_true_eq_false, not_false_eq_true, c_7], rfl⟩) d_D_drop_37 (Nat.le_of_ble_eq_true rfl) (Nat.le_of_ble_eq_true rfl)
  · have hP9 : va_P (dC, dI) vwCl [(d0, .inr (3, [.ref pl, .ref tp, .ref wi, .ref pg, .ref te, .ref nw, .ref nx])), (pl, .inr (1, [.ref pb, .int dn, .int wr, .int pw])), (tp, .inr (2, [.ref tb, .int ln]))] _ := ey_P (is := [0, 1, 2]) hP rfl
    have hD9 : va_D A [(d0, .inr (3, [.ref pl, .ref tp, .ref wi, .ref pg, .ref te, .ref nw, .ref nx])), (pl, .inr (1, [.ref pb, .int dn, .int wr, .int pw])), (tp, .inr (2, [.ref tb, .int ln]))] := hD.sub [0, 1, 2] (by decide) rfl
    obtain ⟨sa9, hstr9⟩ := ex_str (k := 86) (t := "the store is down") hG (by decide +kernel)
    exact vx_throwS (names := ["java/lang/RuntimeException", "java/lang/Exception"]) hx hb hl9 hown (by decide +kernel) (by decide +kernel) (hts _ ew_260) (hts _ ew_23) hstr9 (ex_hatS hG hts) ex_goodS hZ.1 hZ.2 hS (by rw [hml]; exact hl.1) d_D_drop_10 d_D_drop_13 d_D_drop_14 d_D_drop_16 d_D_drop_19 (fun x h9 => (hno x h9).elim) (Nat.le_of_ble_eq_true rfl) (Nat.le_of_ble_eq_true rfl) (Nat.le_of_ble_eq_true rfl) (Nat.le_of_ble_eq_true rfl) hlocks (fun t _ hz hk => ⟨(), trivial, ⟨Or.inr ⟨rfl, by simp only [ep_kdown, ↓reduceIte, not_true_eq_false, not_false_eq_true, c_7]⟩, (ey_keptX hP9 hD9 hS hz hk).1⟩, (ey_keptX hP9 hD9 hS hz hk).2⟩) hS.2.2 (Nat.le_of_ble_eq_true rfl) (Nat.le_of_ble_eq_true rfl)
set_option maxHeartbeats 4000000 in
set_option maxRecDepth 100000 in
theorem c_ed_wish (l : Launch) (dC : Nat → ClassId) (dI : Nat → Nat → Nat) (cI cB cJ cZ : ClassId) (hl9 : l.stackTraces = false) (d0 pl tp wi pg te nw nx : Nat) (pb : Nat) (dn wr pw : Int32) (wf : ep_F) (x y : Int32) : ey_Xi l y_D_wish w_D_wish { frames := 6, cells := 1, slots := 6, locals := 90 } (dC, dI) vwCl (ey_kt cI cB cJ cZ) [.ref d0, .int x, .int y] [(d0, .inr (3, [.ref pl, .ref tp, .ref wi, .ref pg, .ref te, .ref nw, .ref nx])), (pl, .inr (1, [.ref pb, .int dn, .int wr, .int pw])), (wi, .inl (cI, 24, .inl wf))] (fun (r : Int32) (u : ep_F) => ep_knote dn x = 0 ∧ r = wf x.toNatClampNeg ∧ u = upd wf x.toNatClampNeg y) (fun (u : ep_F) => [(d0, .inr (3, [.ref pl, .ref tp, .ref wi, .ref pg, .ref te, .ref nw, .ref nx])), (pl, .inr (1, [.ref pb, .int dn, .int wr, .int pw])), (wi, .inl (cI, 24, .inl u))]) (fun E => (E = "java/lang/IllegalArgumentException" ∧ ep_knote dn x = 1) ∨ (E = "java/lang/IllegalStateException" ∧ ep_knote dn x = 2)) 1 6 := by
  intro sz
  refine vx_ofW (cc := b_D_wish) (maxL := 4) (ret := (some .int)) (by decide) rfl ?_
  intro p e s m args below meth c s₁ B hml hno hv
  obtain ⟨rfl, hZ, hsz, hP, hK, hG, hD0⟩ := hv
  have hx := B.exec
  have hb := B.bytes
  have hr := B.returns
  have hts := fun (w : Cond) (h : w ∈ ew_T) => atoms_spec (ws := w_D_wish) B.pre w (List.mem_cons_of_mem _ h)
  have hown : s.vm.findClass R_D = some m.cls := findClass_of_methodNamed B.named
  have hlocks := B.notSynchronized
  subst hsz
  have hD := hD0.self (sz := s.heap.size)
  generalize hAe : va_A [(d0, .inr (3, [.ref pl, .ref tp, .ref wi, .ref pg, .ref te, .ref nw, .ref nx])), (pl, .inr (1, [.ref pb, .int dn, .int wr, .int pw])), (wi, .inl (cI, 24, .inl wf))] s.heap.size = A at hD hZ ⊢
  have hA : ∀ q : Nat, s.heap.size ≤ q → A q := fun q h => by rw [← hAe]; exact Or.inr h
  have hS : va_S A s.heap s.heap [] := va_S.rf
  have hP : va_P (dC, dI) vwCl [(d0, .inr (3, [.ref pl, .ref tp, .ref wi, .ref pg, .ref te, .ref nw, .ref nx])), (pl, .inr (1, [.ref pb, .int dn, .int wr, .int pw])), (wi, .inl (cI, 24, .inl wf))] s.heap := hP
  have hl := lv_entry ([.ref d0, .int x, .int y]) (n := 4) (Nat.le_of_ble_eq_true rfl)
  rw [lg_entry_eq]
  generalize (lg_sl ([.ref d0, .int x, .int y]) ++ List.replicate (4 - (lg_sl ([.ref d0, .int x, .int y])).length) Slot.unset).toArray = ls at hl ⊢
  have hl : lv_has ls 4 [(0, .ref d0), (1, .int x), (2, .int y)] := hl
  refine lv_iload_n hx hb d_D_wish_0 rfl (lv_at hl 1 rfl) ?_
  refine lv_if_lt (tgt := 10) hx hb d_D_wish_1 (by decide) (fun c_1 => ?_) (fun c_1 => ?_)
  · have hP9 : va_P (dC, dI) vwCl [(d0, .inr (3, [.ref pl, .ref tp, .ref wi, .ref pg, .ref te, .ref nw, .ref nx])), (pl, .inr (1, [.ref pb, .int dn, .int wr, .int pw])), (wi, .inl (cI, 24, .inl wf))] _ := ey_P (is := [0, 1, 2]) hP rfl
    have hD9 : va_D A [(d0, .inr (3, [.ref pl, .ref tp, .ref wi, .ref pg, .ref te, .ref nw, .ref nx])), (pl, .inr (1, [.ref pb, .int dn, .int wr, .int pw])), (wi, .inl (cI, 24, .inl wf))] := hD.sub [0, 1, 2] (by decide) rfl
    obtain ⟨sa9, hstr9⟩ := ex_str (k := 88) (t := "i is not 0 .. 23") hG (by decide +kernel)
    exact vx_throwS (names := ["java/lang/RuntimeException", "java/lang/Exception"]) hx hb hl9 hown (by decide +kernel) (by decide +kernel) (hts _ ew_190) (hts _ ew_22) hstr9 (ex_hatA hG hts) ex_goodA hZ.1 hZ.2 hS (by rw [hml]; exact hl.1) d_D_wish_10 d_D_wish_13 d_D_wish_14 d_D_wish_16 d_D_wish_19 (fun x h9 => (hno x h9).elim) (Nat.le_of_ble_eq_true rfl) (Nat.le_of_ble_eq_true rfl) (Nat.le_of_ble_eq_true rfl) (Nat.le_of_ble_eq_true rfl) hlocks (fun t _ hz hk => ⟨(), trivial, ⟨Or.inl ⟨rfl, by simp only [ep_knote, ↓reduceIte, not_true_eq_false, not_false_eq_true, c_1]⟩, (ey_keptX hP9 hD9 hS hz hk).1⟩, (ey_keptX hP9 hD9 hS hz hk).2⟩) hS.2.2 (Nat.le_of_ble_eq_true rfl) (Nat.le_of_ble_eq_true rfl)
  · refine lv_iload_n hx hb d_D_wish_4 rfl (lv_at hl 1 rfl) ?_
    refine lv_bipush (v := 24) hx hb d_D_wish_5 (by decide) ?_
    refine lv_icmp_lt (tgt := 20) hx hb d_D_wish_7 (by decide) (fun c_7 => ?_) (fun c_7 => ?_)
    · refine lv_aload_n hx hb d_D_wish_20 rfl (lv_at hl 0 rfl) ?_
      refine va_get (D := (dC, dI)) (ci := 3) (v := .ref pl) (C := R_D) (T := T_D) (N := 7) hx hb hts in_D hown hK hP 0 rfl rfl 0 (by decide) (hts _ ew_109) (fun _ h9 => h9) rfl d_D_wish_21 ?_
      refine va_get (D := (dC, dI)) (ci := 1) (v := .int dn) (C := R_P) (T := T_P) (N := 4) hx hb hts in_P hown hK hP 1 rfl rfl 1 (by decide) (hts _ ew_48) (fun _ h9 => h9) rfl d_D_wish_24 ?_
      refine lv_if_eq (tgt := 40) hx hb d_D_wish_27 (by decide) (fun c_27 => ?_) (fun c_27 => ?_)
      · refine lv_aload_n hx hb d_D_wish_40 rfl (lv_at hl 0 rfl) ?_
        refine va_get (D := (dC, dI)) (ci := 3) (v := .ref wi) (C := R_D) (T := T_D) (N := 7) hx hb hts in_D hown hK hP 0 rfl rfl 2 (by decide) (hts _ ew_111) (fun _ h9 => h9) rfl d_D_wish_41 ?_
        refine lv_iload_n hx hb d_D_wish_44 rfl (lv_at hl 1 rfl) ?_
        refine va_iald hx hb hK hP 2 0 rfl rfl (ey_inlt (n := 24) ⟨rfl, by decide⟩ c_1 c_7) d_D_wish_45 ?_
        refine lv_istore_n (lv' := [(3, .int (wf x.toNatClampNeg)), (0, .ref d0), (1, .int x), (2, .int y)]) hx hb d_D_wish_46 rfl hl (by decide) rfl (fun ls hl => ?_)
        refine lv_aload_n hx hb d_D_wish_47 rfl (lv_at hl 1 rfl) ?_
        refine va_get (D := (dC, dI)) (ci := 3) (v := .ref wi) (C := R_D) (T := T_D) (N := 7) hx hb hts in_D hown hK hP 0 rfl rfl 2 (by decide) (hts _ ew_111) (fun _ h9 => h9) rfl d_D_wish_48 ?_
        refine lv_iload_n hx hb d_D_wish_51 rfl (lv_at hl 2 rfl) ?_
        refine lv_iload_n hx hb d_D_wish_52 rfl (lv_at hl 3 rfl) ?_
        refine va_iast hx hb hK hP hD hS 2 0 rfl rfl (ey_inlt (n := 24) ⟨rfl, by decide⟩ c_1 c_7) d_D_wish_53 (fun H locs hP hD hS => ?_)
        have hP : va_P (dC, dI) vwCl [(d0, .inr (3, [.ref pl, .ref tp, .ref wi, .ref pg, .ref te, .ref nw, .ref nx])), (pl, .inr (1, [.ref pb, .int dn, .int wr, .int pw])), (wi, .inl (cI, 24, .inl (upd wf x.toNatClampNeg y)))] H := hP
        have hD : va_D A [(d0, .inr (3, [.ref pl, .ref tp, .ref wi, .ref pg, .ref te, .ref nw, .ref nx])), (pl, .inr (1, [.ref pb, .int dn, .int wr, .int pw])), (wi, .inl (cI, 24, .inl (upd wf x.toNatClampNeg y)))] := hD
        refine lv_iload_n hx hb d_D_wish_54 rfl (lv_at hl 0 rfl) ?_
        refine vx_ret ?_
        exact ey_iret (W1 := fun (u : ep_F) => [(d0, .inr (3, [.ref pl, .ref tp, .ref wi, .ref pg, .ref te, .ref nw, .ref nx])), (pl, .inr (1, [.ref pb, .int dn, .int wr, .int pw])), (wi, .inl (cI, 24, .inl u))]) hx hb hr hlocks hP hD hS (upd wf x.toNatClampNeg y) [0, 1, 2] rfl (by decide) (⟨by simp only [ep_knote, ↓reduceIte, not_true_eq_false, not_false_eq_true, c_1, c_7, c_27], rfl, rfl⟩) d_D_wish_55 (Nat.le_of_ble_eq_true rfl) (Nat.le_of_ble_eq_true rfl)
      · have hP9 : va_P (dC, dI) vwCl [(d0, .inr (3, [.ref pl, .ref tp, .ref wi, .ref pg, .ref te, .ref nw, .ref nx])), (pl, .inr (1, [.ref pb, .int dn, .int wr, .int pw])), (wi, .inl (cI, 24, .inl wf))] _ := ey_P (is := [0, 1, 2]) hP rfl
        have hD9 : va_D A [(d0, .inr (3, [.ref pl, .ref tp, .ref wi, .ref pg, .ref te, .ref nw, .ref nx])), (pl, .inr (1, [.ref pb, .int dn, .int wr, .int pw])), (wi, .inl (cI, 24, .inl wf))] := hD.sub [0, 1, 2] (by decide) rfl
        obtain ⟨sa9, hstr9⟩ := ex_str (k := 86) (t := "the store is down") hG (by decide +kernel)
        exact vx_throwS (names := ["java/lang/RuntimeException", "java/lang/Exception"]) hx hb hl9 hown (by decide +kernel) (by decide +kernel) (hts _ ew_260) (hts _ ew_23) hstr9 (ex_hatS hG hts) ex_goodS hZ.1 hZ.2 hS (by rw [hml]; exact hl.1) d_D_wish_30 d_D_wish_33 d_D_wish_34 d_D_wish_36 d_D_wish_39 (fun x h9 => (hno x h9).elim) (Nat.le_of_ble_eq_true rfl) (Nat.le_of_ble_eq_true rfl) (Nat.le_of_ble_eq_true rfl) (Nat.le_of_ble_eq_true rfl) hlocks (fun t _ hz hk => ⟨(), trivial, ⟨Or.inr ⟨rfl, by simp only [ep_knote, ↓reduceIte, not_true_eq_false, not_false_eq_true, c_1, c_7, c_27]⟩, (ey_keptX hP9 hD9 hS hz hk).1⟩, (ey_keptX hP9 hD9 hS hz hk).2⟩) hS.2.2 (Nat.le_of_ble_eq_true rfl) (Nat.le_of_ble_eq_true rfl)
    · have hP9 : va_P (dC, dI) vwCl [(d0, .inr (3, [.ref pl, .ref tp, .ref wi, .ref pg, .ref te, .ref nw, .ref nx])), (pl, .inr (1, [.ref pb, .int dn, .int wr, .int pw])), (wi, .inl (cI, 24, .inl wf))] _ := ey_P (is := [0, 1, 2]) hP rfl
      have hD9 : va_D A [(d0, .inr (3, [.ref pl, .ref tp, .ref wi, .ref pg, .ref te, .ref nw, .ref nx])), (pl, .inr (1, [.ref pb, .int dn, .int wr, .int pw])), (wi, .inl (cI, 24, .inl wf))] := hD.sub [0, 1, 2] (by decide) rfl
      obtain ⟨sa9, hstr9⟩ := ex_str (k := 88) (t := "i is not 0 .. 23") hG (by decide +kernel)
      exact vx_throwS (names := ["java/lang/RuntimeException", "java/lang/Exception"]) hx hb hl9 hown (by decide +kernel) (by decide +kernel) (hts _ ew_190) (hts _ ew_22) hstr9 (ex_hatA hG hts) ex_goodA hZ.1 hZ.2 hS (by rw [hml]; exact hl.1) d_D_wish_10 d_D_wish_13 d_D_wish_14 d_D_wish_16 d_D_wish_19 (fun x h9 => (hno x h9).elim) (Nat.le_of_ble_eq_true rfl) (Nat.le_of_ble_eq_true rfl) (Nat.le_of_ble_eq_true rfl) (Nat.le_of_ble_eq_true rfl) hlocks (fun t _ hz hk => ⟨(), trivial, ⟨Or.inl ⟨rfl, by simp only [ep_knote, ↓reduceIte, not_true_eq_false, not_false_eq_true, c_1, c_7]⟩, (ey_keptX hP9 hD9 hS hz hk).1⟩, (ey_keptX hP9 hD9 hS hz hk).2⟩) hS.2.2 (Nat.le_of_ble_eq_true rfl) (Nat.le_of_ble_eq_true rfl)
set_option maxHeartbeats 4000000 in
set_option maxRecDepth 100000 in
theorem c_ed_note (l : Launch) (dC : Nat → ClassId) (dI : Nat → Nat → Nat) (cI cB cJ cZ : ClassId) (hl9 : l.stackTraces = false) (d0 pl tp wi pg te nw nx : Nat) (pb : Nat) (dn wr pw : Int32) (n1 n2 n3 n4 : Nat) (ex ch : Int32) (no : ep_F) (x : Int32) : ey_Xi l y_D_note w_D_note { frames := 6, cells := 1, slots := 6, locals := 90 } (dC, dI) vwCl (ey_kt cI cB cJ cZ) [.ref d0, .int x] [(d0, .inr (3, [.ref pl, .ref tp, .ref wi, .ref pg, .ref te, .ref nw, .ref nx])), (pl, .inr (1, [.ref pb, .int dn, .int wr, .int pw])), (nw, .inr (0, [.ref n1, .ref n2, .ref n3, .ref n4, .int ex, .int ch])), (n4, .inl (cI, 24, .inl no))] (fun (r : Int32) (u : Unit) => ep_knote dn x = 0 ∧ r = no x.toNatClampNeg) (fun (u : Unit) => [(d0, .inr (3, [.ref pl, .ref tp, .ref wi, .ref pg, .ref te, .ref nw, .ref nx])), (pl, .inr (1, [.ref pb, .int dn, .int wr, .int pw])), (nw, .inr (0, [.ref n1, .ref n2, .ref n3, .ref n4, .int ex, .int ch])), (n4, .inl (cI, 24, .inl no))]) (fun E => (E = "java/lang/IllegalArgumentException" ∧ ep_knote dn x = 1) ∨ (E = "java/lang/IllegalStateException" ∧ ep_knote dn x = 2)) 1 6 := by
  intro sz
  refine vx_ofW (cc := b_D_note) (maxL := 2) (ret := (some .int)) (by decide) rfl ?_
  intro p e s m args below meth c s₁ B hml hno hv
  obtain ⟨rfl, hZ, hsz, hP, hK, hG, hD0⟩ := hv
  have hx := B.exec
  have hb := B.bytes
  have hr := B.returns
  have hts := fun (w : Cond) (h : w ∈ ew_T) => atoms_spec (ws := w_D_note) B.pre w (List.mem_cons_of_mem _ h)
  have hown : s.vm.findClass R_D = some m.cls := findClass_of_methodNamed B.named
  have hlocks := B.notSynchronized
  subst hsz
  have hD := hD0.self (sz := s.heap.size)
  generalize hAe : va_A [(d0, .inr (3, [.ref pl, .ref tp, .ref wi, .ref pg, .ref te, .ref nw, .ref nx])), (pl, .inr (1, [.ref pb, .int dn, .int wr, .int pw])), (nw, .inr (0, [.ref n1, .ref n2, .ref n3, .ref n4, .int ex, .int ch])), (n4, .inl (cI, 24, .inl no))] s.heap.size = A at hD hZ ⊢
  have hA : ∀ q : Nat, s.heap.size ≤ q → A q := fun q h => by rw [← hAe]; exact Or.inr h
  have hS : va_S A s.heap s.heap [] := va_S.rf
  have hP : va_P (dC, dI) vwCl [(d0, .inr (3, [.ref pl, .ref tp, .ref wi, .ref pg, .ref te, .ref nw, .ref nx])), (pl, .inr (1, [.ref pb, .int dn, .int wr, .int pw])), (nw, .inr (0, [.ref n1, .ref n2, .ref n3, .ref n4, .int ex, .int ch])), (n4, .inl (cI, 24, .inl no))] s.heap := hP
  have hl := lv_entry ([.ref d0, .int x]) (n := 2) (Nat.le_of_ble_eq_true rfl)
  rw [lg_entry_eq]
  generalize (lg_sl ([.ref d0, .int x]) ++ List.replicate (2 - (lg_sl ([.ref d0, .int x])).length) Slot.unset).toArray = ls at hl ⊢
  have hl : lv_has ls 2 [(0, .ref d0), (1, .int x)] := hl
  refine lv_iload_n hx hb d_D_note_0 rfl (lv_at hl 1 rfl) ?_
  refine lv_if_lt (tgt := 10) hx hb d_D_note_1 (by decide) (fun c_1 => ?_) (fun c_1 => ?_)
  · have hP9 : va_P (dC, dI) vwCl [(d0, .inr (3, [.ref pl, .ref tp, .ref wi, .ref pg, .ref te, .ref nw, .ref nx])), (pl, .inr (1, [.ref pb, .int dn, .int wr, .int pw])), (nw, .inr (0, [.ref n1, .ref n2, .ref n3, .ref n4, .int ex, .int ch])), (n4, .inl (cI, 24, .inl no))] _ := ey_P (is := [0, 1, 2, 3]) hP rfl
    have hD9 : va_D A [(d0, .inr (3, [.ref pl, .ref tp, .ref wi, .ref pg, .ref te, .ref nw, .ref nx])), (pl, .inr (1, [.ref pb, .int dn, .int wr, .int pw])), (nw, .inr (0, [.ref n1, .ref n2, .ref n3, .ref n4, .int ex, .int ch])), (n4, .inl (cI, 24, .inl no))] := hD.sub [0, 1, 2, 3] (by decide) rfl
    obtain ⟨sa9, hstr9⟩ := ex_str (k := 88) (t := "i is not 0 .. 23") hG (by decide +kernel)
    exact vx_throwS (names := ["java/lang/RuntimeException", "java/lang/Exception"]) hx hb hl9 hown (by decide +kernel) (by decide +kernel) (hts _ ew_190) (hts _ ew_22) hstr9 (ex_hatA hG hts) ex_goodA hZ.1 hZ.2 hS (by rw [hml]; exact hl.1) d_D_note_10 d_D_note_13 d_D_note_14 d_D_note_16 d_D_note_19 (fun x h9 => (hno x h9).elim) (Nat.le_of_ble_eq_true rfl) (Nat.le_of_ble_eq_true rfl) (Nat.le_of_ble_eq_true rfl) (Nat.le_of_ble_eq_true rfl) hlocks (fun t _ hz hk => ⟨(), trivial, ⟨Or.inl ⟨rfl, by simp only [ep_knote, ↓reduceIte, not_true_eq_false, not_false_eq_true, c_1]⟩, (ey_keptX hP9 hD9 hS hz hk).1⟩, (ey_keptX hP9 hD9 hS hz hk).2⟩) hS.2.2 (Nat.le_of_ble_eq_true rfl) (Nat.le_of_ble_eq_true rfl)
  · refine lv_iload_n hx hb d_D_note_4 rfl (lv_at hl 1 rfl) ?_
    refine lv_bipush (v := 24) hx hb d_D_note_5 (by decide) ?_
    refine lv_icmp_lt (tgt := 20) hx hb d_D_note_7 (by decide) (fun c_7 => ?_) (fun c_7 => ?_)
    · refine lv_aload_n hx hb d_D_note_20 rfl (lv_at hl 0 rfl) ?_
      refine va_get (D := (dC, dI)) (ci := 3) (v := .ref pl) (C := R_D) (T := T_D) (N := 7) hx hb hts in_D hown hK hP 0 rfl rfl 0 (by decide) (hts _ ew_109) (fun _ h9 => h9) rfl d_D_note_21 ?_
      refine va_get (D := (dC, dI)) (ci := 1) (v := .int dn) (C := R_P) (T := T_P) (N := 4) hx hb hts in_P hown hK hP 1 rfl rfl 1 (by decide) (hts _ ew_48) (fun _ h9 => h9) rfl d_D_note_24 ?_
      refine lv_if_eq (tgt := 40) hx hb d_D_note_27 (by decide) (fun c_27 => ?_) (fun c_27 => ?_)
      · refine lv_aload_n hx hb d_D_note_40 rfl (lv_at hl 0 rfl) ?_
        refine va_get (D := (dC, dI)) (ci := 3) (v := .ref nw) (C := R_D) (T := T_D) (N := 7) hx hb hts in_D hown hK hP 0 rfl rfl 5 (by decide) (hts _ ew_114) (fun _ h9 => h9) rfl d_D_note_41 ?_
        refine va_get (D := (dC, dI)) (ci := 0) (v := .ref n4) (C := R_M) (T := T_M) (N := 6) hx hb hts in_M hown hK hP 2 rfl rfl 3 (by decide) (hts _ ew_90) (fun _ h9 => h9) rfl d_D_note_44 ?_
        refine lv_iload_n hx hb d_D_note_47 rfl (lv_at hl 1 rfl) ?_
        refine va_iald hx hb hK hP 3 0 rfl rfl (ey_inlt (n := 24) ⟨rfl, by decide⟩ c_1 c_7) d_D_note_48 ?_
        refine vx_ret ?_
        exact ey_iret (W1 := fun (u : Unit) => [(d0, .inr (3, [.ref pl, .ref tp, .ref wi, .ref pg, .ref te, .ref nw, .ref nx])), (pl, .inr (1, [.ref pb, .int dn, .int wr, .int pw])), (nw, .inr (0, [.ref n1, .ref n2, .ref n3, .ref n4, .int ex, .int ch])), (n4, .inl (cI, 24, .inl no))]) hx hb hr hlocks hP hD hS () [0, 1, 2, 3] rfl (by decide) (⟨by simp only [ep_knote, ↓reduceIte, not_true_eq_false, not_false_eq_true, c_1, c_7, c_27], rfl⟩) d_D_note_49 (Nat.le_of_ble_eq_true rfl) (Nat.le_of_ble_eq_true rfl)
      · have hP9 : va_P (dC, dI) vwCl [(d0, .inr (3, [.ref pl, .ref tp, .ref wi, .ref pg, .ref te, .ref nw, .ref nx])), (pl, .inr (1, [.ref pb, .int dn, .int wr, .int pw])), (nw, .inr (0, [.ref n1, .ref n2, .ref n3, .ref n4, .int ex, .int ch])), (n4, .inl (cI, 24, .inl no))] _ := ey_P (is := [0, 1, 2, 3]) hP rfl
        have hD9 : va_D A [(d0, .inr (3, [.ref pl, .ref tp, .ref wi, .ref pg, .ref te, .ref nw, .ref nx])), (pl, .inr (1, [.ref pb, .int dn, .int wr, .int pw])), (nw, .inr (0, [.ref n1, .ref n2, .ref n3, .ref n4, .int ex, .int ch])), (n4, .inl (cI, 24, .inl no))] := hD.sub [0, 1, 2, 3] (by decide) rfl
        obtain ⟨sa9, hstr9⟩ := ex_str (k := 86) (t := "the store is down") hG (by decide +kernel)
        exact vx_throwS (names := ["java/lang/RuntimeException", "java/lang/Exception"]) hx hb hl9 hown (by decide +kernel) (by decide +kernel) (hts _ ew_260) (hts _ ew_23) hstr9 (ex_hatS hG hts) ex_goodS hZ.1 hZ.2 hS (by rw [hml]; exact hl.1) d_D_note_30 d_D_note_33 d_D_note_34 d_D_note_36 d_D_note_39 (fun x h9 => (hno x h9).elim) (Nat.le_of_ble_eq_true rfl) (Nat.le_of_ble_eq_true rfl) (Nat.le_of_ble_eq_true rfl) (Nat.le_of_ble_eq_true rfl) hlocks (fun t _ hz hk => ⟨(), trivial, ⟨Or.inr ⟨rfl, by simp only [ep_knote, ↓reduceIte, not_true_eq_false, not_false_eq_true, c_1, c_7, c_27]⟩, (ey_keptX hP9 hD9 hS hz hk).1⟩, (ey_keptX hP9 hD9 hS hz hk).2⟩) hS.2.2 (Nat.le_of_ble_eq_true rfl) (Nat.le_of_ble_eq_true rfl)
    · have hP9 : va_P (dC, dI) vwCl [(d0, .inr (3, [.ref pl, .ref tp, .ref wi, .ref pg, .ref te, .ref nw, .ref nx])), (pl, .inr (1, [.ref pb, .int dn, .int wr, .int pw])), (nw, .inr (0, [.ref n1, .ref n2, .ref n3, .ref n4, .int ex, .int ch])), (n4, .inl (cI, 24, .inl no))] _ := ey_P (is := [0, 1, 2, 3]) hP rfl
      have hD9 : va_D A [(d0, .inr (3, [.ref pl, .ref tp, .ref wi, .ref pg, .ref te, .ref nw, .ref nx])), (pl, .inr (1, [.ref pb, .int dn, .int wr, .int pw])), (nw, .inr (0, [.ref n1, .ref n2, .ref n3, .ref n4, .int ex, .int ch])), (n4, .inl (cI, 24, .inl no))] := hD.sub [0, 1, 2, 3] (by decide) rfl
      obtain ⟨sa9, hstr9⟩ := ex_str (k := 88) (t := "i is not 0 .. 23") hG (by decide +kernel)
      exact vx_throwS (names := ["java/lang/RuntimeException", "java/lang/Exception"]) hx hb hl9 hown (by decide +kernel) (by decide +kernel) (hts _ ew_190) (hts _ ew_22) hstr9 (ex_hatA hG hts) ex_goodA hZ.1 hZ.2 hS (by rw [hml]; exact hl.1) d_D_note_10 d_D_note_13 d_D_note_14 d_D_note_16 d_D_note_19 (fun x h9 => (hno x h9).elim) (Nat.le_of_ble_eq_true rfl) (Nat.le_of_ble_eq_true rfl) (Nat.le_of_ble_eq_true rfl) (Nat.le_of_ble_eq_true rfl) hlocks (fun t _ hz hk => ⟨(), trivial, ⟨Or.inl ⟨rfl, by simp only [ep_knote, ↓reduceIte, not_true_eq_false, not_false_eq_true, c_1, c_7]⟩, (ey_keptX hP9 hD9 hS hz hk).1⟩, (ey_keptX hP9 hD9 hS hz hk).2⟩) hS.2.2 (Nat.le_of_ble_eq_true rfl) (Nat.le_of_ble_eq_true rfl)
