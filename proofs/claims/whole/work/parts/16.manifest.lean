set_option maxHeartbeats 4000000 in
set_option maxRecDepth 100000 in
theorem c_mf_holds (l : Launch) (dC : Nat → ClassId) (dI : Nat → Nat → Nat) (cI cB cJ cZ : ClassId) (h0 h1 h2 h3 h4 : Nat) (ex ch x : Int32) : ey_Mi l y_M_holds w_M_holds { frames := 0, cells := 0, slots := 0, locals := 0 } (dC, dI) vwCl (ey_kt cI cB cJ cZ) [.ref h0, .int x] [(h0, .inr (0, [.ref h1, .ref h2, .ref h3, .ref h4, .int ex, .int ch]))] (fun (r : Int32) (u : Unit) => r = ep_holds ex x) (fun (u : Unit) => [(h0, .inr (0, [.ref h1, .ref h2, .ref h3, .ref h4, .int ex, .int ch]))]) 0 0 := by
  intro sz
  refine Met.ofW (cc := b_M_holds) (maxL := 2) (ret := (some .boolean)) (by decide) rfl ?_
  intro p e s m args below meth c s₁ B hml hv
  obtain ⟨rfl, hsz, hP, hK, hG, hD0⟩ := hv
  have hx := B.exec
  have hb := B.bytes
  have hr := B.returns
  have hts := fun (w : Cond) (h : w ∈ ew_T) => atoms_spec (ws := w_M_holds) B.pre w (List.mem_cons_of_mem _ h)
  have hown : s.vm.findClass R_M = some m.cls := findClass_of_methodNamed B.named
  have hlocks := B.notSynchronized
  subst hsz
  have hD := hD0.self (sz := s.heap.size)
  generalize hAe : va_A [(h0, .inr (0, [.ref h1, .ref h2, .ref h3, .ref h4, .int ex, .int ch]))] s.heap.size = A at hD ⊢
  have hA : ∀ q : Nat, s.heap.size ≤ q → A q := fun q h => by rw [← hAe]; exact Or.inr h
  have hS : va_S A s.heap s.heap [] := va_S.rf
  have hP : va_P (dC, dI) vwCl [(h0, .inr (0, [.ref h1, .ref h2, .ref h3, .ref h4, .int ex, .int ch]))] s.heap := hP
  have hl := lv_entry ([.ref h0, .int x]) (n := 2) (Nat.le_of_ble_eq_true rfl)
  rw [lg_entry_eq]
  generalize (lg_sl ([.ref h0, .int x]) ++ List.replicate (2 - (lg_sl ([.ref h0, .int x])).length) Slot.unset).toArray = ls at hl ⊢
  have hl : lv_has ls 2 [(0, .ref h0), (1, .int x)] := hl
  refine lv_iload_n hx hb d_M_holds_0 rfl (lv_at hl 1 rfl) ?_
  refine lv_if_lt (tgt := 23) hx hb d_M_holds_1 (by decide) (fun c_1 => ?_) (fun c_1 => ?_)
  · refine lv_iconst (v := 0) hx hb d_M_holds_23 (by decide) ?_
    exact ey_zret (W1 := fun (u : Unit) => [(h0, .inr (0, [.ref h1, .ref h2, .ref h3, .ref h4, .int ex, .int ch]))]) hx hb hr hlocks hP hD hS () [0] rfl (by decide) (by first | contradiction | (simp only [ep_holds, ↓reduceIte, not_true_eq_false, not_false_eq_true, c_1])) d_M_holds_24 (Nat.le_of_ble_eq_true rfl) (Nat.le_of_ble_eq_true rfl) rfl
  · refine lv_iload_n hx hb d_M_holds_4 rfl (lv_at hl 1 rfl) ?_
    refine lv_aload_n hx hb d_M_holds_5 rfl (lv_at hl 0 rfl) ?_
    refine va_get (D := (dC, dI)) (ci := 0) (v := .int ex) (C := R_M) (T := T_M) (N := 6) hx hb hts in_M hown hK hP 0 rfl rfl 4 (by decide) (hts _ ew_91) (fun _ h9 => h9) rfl d_M_holds_6 ?_
    refine lv_icmp_ge (tgt := 23) hx hb d_M_holds_9 (by decide) (fun c_9 => ?_) (fun c_9 => ?_)
    · refine lv_iconst (v := 0) hx hb d_M_holds_23 (by decide) ?_
      exact ey_zret (W1 := fun (u : Unit) => [(h0, .inr (0, [.ref h1, .ref h2, .ref h3, .ref h4, .int ex, .int ch]))]) hx hb hr hlocks hP hD hS () [0] rfl (by decide) (by first | contradiction | (simp only [ep_holds, ↓reduceIte, not_true_eq_false, not_false_eq_true, c_1, c_9])) d_M_holds_24 (Nat.le_of_ble_eq_true rfl) (Nat.le_of_ble_eq_true rfl) rfl
    · refine lv_iload_n hx hb d_M_holds_12 rfl (lv_at hl 1 rfl) ?_
      refine lv_sipush (v := 200) hx hb d_M_holds_13 (by decide) ?_
      refine lv_icmp_ge (tgt := 23) hx hb d_M_holds_16 (by decide) (fun c_16 => ?_) (fun c_16 => ?_)
      · refine lv_iconst (v := 0) hx hb d_M_holds_23 (by decide) ?_
        exact ey_zret (W1 := fun (u : Unit) => [(h0, .inr (0, [.ref h1, .ref h2, .ref h3, .ref h4, .int ex, .int ch]))]) hx hb hr hlocks hP hD hS () [0] rfl (by decide) (by first | contradiction | (simp only [ep_holds, ↓reduceIte, not_true_eq_false, not_false_eq_true, c_1, c_9, c_16])) d_M_holds_24 (Nat.le_of_ble_eq_true rfl) (Nat.le_of_ble_eq_true rfl) rfl
      · refine lv_iconst (v := 1) hx hb d_M_holds_19 (by decide) ?_
        refine lv_goto (tgt := 24) hx hb d_M_holds_20 (by decide) ?_
        exact ey_zret (W1 := fun (u : Unit) => [(h0, .inr (0, [.ref h1, .ref h2, .ref h3, .ref h4, .int ex, .int ch]))]) hx hb hr hlocks hP hD hS () [0] rfl (by decide) (by first | contradiction | (simp only [ep_holds, ↓reduceIte, not_true_eq_false, not_false_eq_true, c_1, c_9, c_16])) d_M_holds_24 (Nat.le_of_ble_eq_true rfl) (Nat.le_of_ble_eq_true rfl) rfl
set_option maxHeartbeats 4000000 in
set_option maxRecDepth 100000 in
theorem c_mf_add (l : Launch) (dC : Nat → ClassId) (dI : Nat → Nat → Nat) (cI cB cJ cZ : ClassId) (h0 h1 h2 h3 h4 : Nat) (ex ch : Int32) (la fi si : ep_F) (x y z : Int32) : ey_Mi l y_M_add w_M_add { frames := 0, cells := 0, slots := 0, locals := 0 } (dC, dI) vwCl (ey_kt cI cB cJ cZ) [.ref h0, .int x, .int y, .int z] [(h0, .inr (0, [.ref h1, .ref h2, .ref h3, .ref h4, .int ex, .int ch])), (h1, .inl (cI, 200, .inl la)), (h2, .inl (cI, 200, .inl fi)), (h3, .inl (cI, 200, .inl si))] (fun (r : Int32) (u : ep_R) => (r, u) = ep_add (la, fi, si, ex) x y z) (fun (u : ep_R) => [(h0, .inr (0, [.ref h1, .ref h2, .ref h3, .ref h4, .int u.2.2.2, .int ch])), (h1, .inl (cI, 200, .inl u.1)), (h2, .inl (cI, 200, .inl u.2.1)), (h3, .inl (cI, 200, .inl u.2.2.1))]) 0 0 := by
  intro sz
  refine Met.ofW (cc := b_M_add) (maxL := 4) (ret := (some .boolean)) (by decide) rfl ?_
  intro p e s m args below meth c s₁ B hml hv
  obtain ⟨rfl, hsz, hP, hK, hG, hD0⟩ := hv
  have hx := B.exec
  have hb := B.bytes
  have hr := B.returns
  have hts := fun (w : Cond) (h : w ∈ ew_T) => atoms_spec (ws := w_M_add) B.pre w (List.mem_cons_of_mem _ h)
  have hown : s.vm.findClass R_M = some m.cls := findClass_of_methodNamed B.named
  have hlocks := B.notSynchronized
  subst hsz
  have hD := hD0.self (sz := s.heap.size)
  generalize hAe : va_A [(h0, .inr (0, [.ref h1, .ref h2, .ref h3, .ref h4, .int ex, .int ch])), (h1, .inl (cI, 200, .inl la)), (h2, .inl (cI, 200, .inl fi)), (h3, .inl (cI, 200, .inl si))] s.heap.size = A at hD ⊢
  have hA : ∀ q : Nat, s.heap.size ≤ q → A q := fun q h => by rw [← hAe]; exact Or.inr h
  have hS : va_S A s.heap s.heap [] := va_S.rf
  have hP : va_P (dC, dI) vwCl [(h0, .inr (0, [.ref h1, .ref h2, .ref h3, .ref h4, .int ex, .int ch])), (h1, .inl (cI, 200, .inl la)), (h2, .inl (cI, 200, .inl fi)), (h3, .inl (cI, 200, .inl si))] s.heap := hP
  have hl := lv_entry ([.ref h0, .int x, .int y, .int z]) (n := 4) (Nat.le_of_ble_eq_true rfl)
  rw [lg_entry_eq]
  generalize (lg_sl ([.ref h0, .int x, .int y, .int z]) ++ List.replicate (4 - (lg_sl ([.ref h0, .int x, .int y, .int z])).length) Slot.unset).toArray = ls at hl ⊢
  have hl : lv_has ls 4 [(0, .ref h0), (1, .int x), (2, .int y), (3, .int z)] := hl
  refine lv_aload_n hx hb d_M_add_0 rfl (lv_at hl 0 rfl) ?_
  refine va_get (D := (dC, dI)) (ci := 0) (v := .int ex) (C := R_M) (T := T_M) (N := 6) hx hb hts in_M hown hK hP 0 rfl rfl 4 (by decide) (hts _ ew_91) (fun _ h9 => h9) rfl d_M_add_1 ?_
  refine lv_if_lt (tgt := 17) hx hb d_M_add_4 (by decide) (fun c_4 => ?_) (fun c_4 => ?_)
  · refine lv_iconst (v := 0) hx hb d_M_add_17 (by decide) ?_
    exact ey_zret (W1 := fun (u : ep_R) => [(h0, .inr (0, [.ref h1, .ref h2, .ref h3, .ref h4, .int u.2.2.2, .int ch])), (h1, .inl (cI, 200, .inl u.1)), (h2, .inl (cI, 200, .inl u.2.1)), (h3, .inl (cI, 200, .inl u.2.2.1))]) hx hb hr hlocks hP hD hS (la, fi, si, ex) [0, 1, 2, 3] rfl (by decide) (by first | contradiction | (simp only [ep_add, ↓reduceIte, not_true_eq_false, not_false_eq_true, c_4])) d_M_add_18 (Nat.le_of_ble_eq_true rfl) (Nat.le_of_ble_eq_true rfl) rfl
  · refine lv_aload_n hx hb d_M_add_7 rfl (lv_at hl 0 rfl) ?_
    refine va_get (D := (dC, dI)) (ci := 0) (v := .int ex) (C := R_M) (T := T_M) (N := 6) hx hb hts in_M hown hK hP 0 rfl rfl 4 (by decide) (hts _ ew_91) (fun _ h9 => h9) rfl d_M_add_8 ?_
    refine lv_sipush (v := 200) hx hb d_M_add_11 (by decide) ?_
    refine lv_icmp_lt (tgt := 19) hx hb d_M_add_14 (by decide) (fun c_14 => ?_) (fun c_14 => ?_)
    · refine lv_aload_n hx hb d_M_add_19 rfl (lv_at hl 0 rfl) ?_
      refine va_get (D := (dC, dI)) (ci := 0) (v := .ref h1) (C := R_M) (T := T_M) (N := 6) hx hb hts in_M hown hK hP 0 rfl rfl 0 (by decide) (hts _ ew_83) (fun _ h9 => h9) rfl d_M_add_20 ?_
      refine lv_aload_n hx hb d_M_add_23 rfl (lv_at hl 0 rfl) ?_
      refine va_get (D := (dC, dI)) (ci := 0) (v := .int ex) (C := R_M) (T := T_M) (N := 6) hx hb hts in_M hown hK hP 0 rfl rfl 4 (by decide) (hts _ ew_91) (fun _ h9 => h9) rfl d_M_add_24 ?_
      refine lv_iload_n hx hb d_M_add_27 rfl (lv_at hl 1 rfl) ?_
      refine va_iast hx hb hK hP hD hS 1 0 rfl rfl (ey_in200 c_4 c_14) d_M_add_28 (fun H locs hP hD hS => ?_)
      have hP : va_P (dC, dI) vwCl [(h0, .inr (0, [.ref h1, .ref h2, .ref h3, .ref h4, .int ex, .int ch])), (h1, .inl (cI, 200, .inl (upd la ex.toNatClampNeg x))), (h2, .inl (cI, 200, .inl fi)), (h3, .inl (cI, 200, .inl si))] H := hP
      have hD : va_D A [(h0, .inr (0, [.ref h1, .ref h2, .ref h3, .ref h4, .int ex, .int ch])), (h1, .inl (cI, 200, .inl (upd la ex.toNatClampNeg x))), (h2, .inl (cI, 200, .inl fi)), (h3, .inl (cI, 200, .inl si))] := hD
      refine lv_aload_n hx hb d_M_add_29 rfl (lv_at hl 0 rfl) ?_
      refine va_get (D := (dC, dI)) (ci := 0) (v := .ref h2) (C := R_M) (T := T_M) (N := 6) hx hb hts in_M hown hK hP 0 rfl rfl 1 (by decide) (hts _ ew_85) (fun _ h9 => h9) rfl d_M_add_30 ?_
      refine lv_aload_n hx hb d_M_add_33 rfl (lv_at hl 0 rfl) ?_
      refine va_get (D := (dC, dI)) (ci := 0) (v := .int ex) (C := R_M) (T := T_M) (N := 6) hx hb hts in_M hown hK hP 0 rfl rfl 4 (by decide) (hts _ ew_91) (fun _ h9 => h9) rfl d_M_add_34 ?_
      refine lv_iload_n hx hb d_M_add_37 rfl (lv_at hl 2 rfl) ?_
      refine va_iast hx hb hK hP hD hS 2 0 rfl rfl (ey_in200 c_4 c_14) d_M_add_38 (fun H locs hP hD hS => ?_)
      have hP : va_P (dC, dI) vwCl [(h0, .inr (0, [.ref h1, .ref h2, .ref h3, .ref h4, .int ex, .int ch])), (h1, .inl (cI, 200, .inl (upd la ex.toNatClampNeg x))), (h2, .inl (cI, 200, .inl (upd fi ex.toNatClampNeg y))), (h3, .inl (cI, 200, .inl si))] H := hP
      have hD : va_D A [(h0, .inr (0, [.ref h1, .ref h2, .ref h3, .ref h4, .int ex, .int ch])), (h1, .inl (cI, 200, .inl (upd la ex.toNatClampNeg x))), (h2, .inl (cI, 200, .inl (upd fi ex.toNatClampNeg y))), (h3, .inl (cI, 200, .inl si))] := hD
      refine lv_aload_n hx hb d_M_add_39 rfl (lv_at hl 0 rfl) ?_
      refine va_get (D := (dC, dI)) (ci := 0) (v := .ref h3) (C := R_M) (T := T_M) (N := 6) hx hb hts in_M hown hK hP 0 rfl rfl 2 (by decide) (hts _ ew_87) (fun _ h9 => h9) rfl d_M_add_40 ?_
      refine lv_aload_n hx hb d_M_add_43 rfl (lv_at hl 0 rfl) ?_
      refine va_get (D := (dC, dI)) (ci := 0) (v := .int ex) (C := R_M) (T := T_M) (N := 6) hx hb hts in_M hown hK hP 0 rfl rfl 4 (by decide) (hts _ ew_91) (fun _ h9 => h9) rfl d_M_add_44 ?_
      refine lv_iload_n hx hb d_M_add_47 rfl (lv_at hl 3 rfl) ?_
      refine va_iast hx hb hK hP hD hS 3 0 rfl rfl (ey_in200 c_4 c_14) d_M_add_48 (fun H locs hP hD hS => ?_)
      have hP : va_P (dC, dI) vwCl [(h0, .inr (0, [.ref h1, .ref h2, .ref h3, .ref h4, .int ex, .int ch])), (h1, .inl (cI, 200, .inl (upd la ex.toNatClampNeg x))), (h2, .inl (cI, 200, .inl (upd fi ex.toNatClampNeg y))), (h3, .inl (cI, 200, .inl (upd si ex.toNatClampNeg z)))] H := hP
      have hD : va_D A [(h0, .inr (0, [.ref h1, .ref h2, .ref h3, .ref h4, .int ex, .int ch])), (h1, .inl (cI, 200, .inl (upd la ex.toNatClampNeg x))), (h2, .inl (cI, 200, .inl (upd fi ex.toNatClampNeg y))), (h3, .inl (cI, 200, .inl (upd si ex.toNatClampNeg z)))] := hD
      refine lv_aload_n hx hb d_M_add_49 rfl (lv_at hl 0 rfl) ?_
      refine lv_dup hx hb d_M_add_50 rfl ?_
      refine va_get (D := (dC, dI)) (ci := 0) (v := .int ex) (C := R_M) (T := T_M) (N := 6) hx hb hts in_M hown hK hP 0 rfl rfl 4 (by decide) (hts _ ew_91) (fun _ h9 => h9) rfl d_M_add_51 ?_
      refine lv_iconst (v := 1) hx hb d_M_add_54 (by decide) ?_
      refine lv_iadd hx hb d_M_add_55 ?_
      refine va_put (D := (dC, dI)) (ci := 0) (v := .int (ex + 1)) (ty := .int) (C := R_M) (T := T_M) (N := 6) hx hb hts in_M t_M t_M_ok n_M hown hK hP hD hS 0 rfl rfl 4 (by decide) (hts _ ew_91) (fun _ h9 => h9) rfl (by decide +kernel) rfl rfl (Nat.le_of_ble_eq_true rfl) d_M_add_56 (fun H locs hP hD hS => ?_)
      have hP : va_P (dC, dI) vwCl [(h0, .inr (0, [.ref h1, .ref h2, .ref h3, .ref h4, .int (ex + 1), .int ch])), (h1, .inl (cI, 200, .inl (upd la ex.toNatClampNeg x))), (h2, .inl (cI, 200, .inl (upd fi ex.toNatClampNeg y))), (h3, .inl (cI, 200, .inl (upd si ex.toNatClampNeg z)))] H := hP
      have hD : va_D A [(h0, .inr (0, [.ref h1, .ref h2, .ref h3, .ref h4, .int (ex + 1), .int ch])), (h1, .inl (cI, 200, .inl (upd la ex.toNatClampNeg x))), (h2, .inl (cI, 200, .inl (upd fi ex.toNatClampNeg y))), (h3, .inl (cI, 200, .inl (upd si ex.toNatClampNeg z)))] := hD
      refine lv_iconst (v := 1) hx hb d_M_add_59 (by decide) ?_
      exact ey_zret (W1 := fun (u : ep_R) => [(h0, .inr (0, [.ref h1, .ref h2, .ref h3, .ref h4, .int u.2.2.2, .int ch])), (h1, .inl (cI, 200, .inl u.1)), (h2, .inl (cI, 200, .inl u.2.1)), (h3, .inl (cI, 200, .inl u.2.2.1))]) hx hb hr hlocks hP hD hS (upd la ex.toNatClampNeg x, upd fi ex.toNatClampNeg y, upd si ex.toNatClampNeg z, ex + 1) [0, 1, 2, 3] rfl (by decide) (by first | contradiction | (simp only [ep_add, ↓reduceIte, not_true_eq_false, not_false_eq_true, c_4, c_14])) d_M_add_60 (Nat.le_of_ble_eq_true rfl) (Nat.le_of_ble_eq_true rfl) rfl
    · refine lv_iconst (v := 0) hx hb d_M_add_17 (by decide) ?_
      exact ey_zret (W1 := fun (u : ep_R) => [(h0, .inr (0, [.ref h1, .ref h2, .ref h3, .ref h4, .int u.2.2.2, .int ch])), (h1, .inl (cI, 200, .inl u.1)), (h2, .inl (cI, 200, .inl u.2.1)), (h3, .inl (cI, 200, .inl u.2.2.1))]) hx hb hr hlocks hP hD hS (la, fi, si, ex) [0, 1, 2, 3] rfl (by decide) (by first | contradiction | (simp only [ep_add, ↓reduceIte, not_true_eq_false, not_false_eq_true, c_4, c_14])) d_M_add_18 (Nat.le_of_ble_eq_true rfl) (Nat.le_of_ble_eq_true rfl) rfl
