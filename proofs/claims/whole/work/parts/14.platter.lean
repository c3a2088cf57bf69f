set_option maxHeartbeats 4000000 in
set_option maxRecDepth 100000 in
/-- limitPower(x) -/
theorem c_pl_limit (l : Launch) (dC : Nat → ClassId) (dI : Nat → Nat → Nat) (cI cB cJ cZ : ClassId) (h0 h1 : Nat) (dn wr pw x : Int32) : ey_Mv l y_P_limitPower w_P_limitPower { frames := 0, cells := 0, slots := 0, locals := 0 } (dC, dI) vwCl (ey_kt cI cB cJ cZ) [.ref h0, .int x] [(h0, .inr (1, [.ref h1, .int dn, .int wr, .int pw]))] (fun (u : Int32) => u = ep_down x) (fun (u : Int32) => [(h0, .inr (1, [.ref h1, .int u, .int wr, .int x]))]) 0 0 := by
  intro sz
  refine Met.ofW (cc := b_P_limitPower) (maxL := 2) (ret := none) (by decide) rfl ?_
  intro p e s m args below meth c s₁ B hml hv
  obtain ⟨rfl, hsz, hP, hK, hG, hD0⟩ := hv
  have hx := B.exec
  have hb := B.bytes
  have hr := B.returns
  have hts := fun (w : Cond) (h : w ∈ ew_T) => atoms_spec (ws := w_P_limitPower) B.pre w (List.mem_cons_of_mem _ h)
  have hown : s.vm.findClass R_P = some m.cls := findClass_of_methodNamed B.named
  have hlocks := B.notSynchronized
  subst hsz
  have hD := hD0.self (sz := s.heap.size)
  generalize hAe : va_A [(h0, .inr (1, [.ref h1, .int dn, .int wr, .int pw]))] s.heap.size = A at hD ⊢
  have hA : ∀ q : Nat, s.heap.size ≤ q → A q := fun q h => by rw [← hAe]; exact Or.inr h
  have hS : va_S A s.heap s.heap [] := va_S.rf
  have hP : va_P (dC, dI) vwCl [(h0, .inr (1, [.ref h1, .int dn, .int wr, .int pw]))] s.heap := hP
  have hl := lv_entry ([.ref h0, .int x]) (n := 2) (Nat.le_of_ble_eq_true rfl)
  rw [lg_entry_eq]
  generalize (lg_sl ([.ref h0, .int x]) ++ List.replicate (2 - (lg_sl ([.ref h0, .int x])).length) Slot.unset).toArray = ls at hl ⊢
  have hl : lv_has ls 2 [(0, .ref h0), (1, .int x)] := hl
  refine lv_aload_n hx hb d_P_limitPower_0 rfl (lv_at hl 0 rfl) ?_
  refine lv_iload_n hx hb d_P_limitPower_1 rfl (lv_at hl 1 rfl) ?_
  refine va_put (D := (dC, dI)) (ci := 1) (v := .int x) (ty := .int) (C := R_P) (T := T_P) (N := 4) hx hb hts in_P t_P t_P_ok n_P hown hK hP hD hS 0 rfl rfl 3 (by decide) (hts _ ew_51) (fun _ h9 => h9) rfl (by decide +kernel) rfl rfl (Nat.le_of_ble_eq_true rfl) d_P_limitPower_2 (fun H locs hP hD hS => ?_)
  have hP : va_P (dC, dI) vwCl [(h0, .inr (1, [.ref h1, .int dn, .int wr, .int x]))] H := hP
  have hD : va_D A [(h0, .inr (1, [.ref h1, .int dn, .int wr, .int x]))] := hD
  refine lv_aload_n hx hb d_P_limitPower_5 rfl (lv_at hl 0 rfl) ?_
  refine lv_iload_n hx hb d_P_limitPower_6 rfl (lv_at hl 1 rfl) ?_
  refine lv_if_ne (tgt := 14) hx hb d_P_limitPower_7 (by decide) (fun c_7 => ?_) (fun c_7 => ?_)
  · refine lv_iconst (v := 0) hx hb d_P_limitPower_14 (by decide) ?_
    refine va_put (D := (dC, dI)) (ci := 1) (v := .int 0) (ty := .boolean) (C := R_P) (T := T_P) (N := 4) hx hb hts in_P t_P t_P_ok n_P hown hK hP hD hS 0 rfl rfl 1 (by decide) (hts _ ew_47) (fun _ h9 => h9) rfl (by decide +kernel) rfl rfl (Nat.le_of_ble_eq_true rfl) d_P_limitPower_15 (fun H locs hP hD hS => ?_)
    have hP : va_P (dC, dI) vwCl [(h0, .inr (1, [.ref h1, .int 0, .int wr, .int x]))] H := hP
    have hD : va_D A [(h0, .inr (1, [.ref h1, .int 0, .int wr, .int x]))] := hD
    exact ey_vret (W1 := fun (u : Int32) => [(h0, .inr (1, [.ref h1, .int u, .int wr, .int x]))]) hx hb hr hlocks hP hD hS 0 [0] rfl (by decide) (by first | contradiction | (simp only [ep_down, ↓reduceIte, not_true_eq_false, not_false_eq_true, c_7])) d_P_limitPower_18 (Nat.le_of_ble_eq_true rfl) (Nat.le_of_ble_eq_true rfl)
  · refine lv_iconst (v := 1) hx hb d_P_limitPower_10 (by decide) ?_
    refine lv_goto (tgt := 15) hx hb d_P_limitPower_11 (by decide) ?_
    refine va_put (D := (dC, dI)) (ci := 1) (v := .int 1) (ty := .boolean) (C := R_P) (T := T_P) (N := 4) hx hb hts in_P t_P t_P_ok n_P hown hK hP hD hS 0 rfl rfl 1 (by decide) (hts _ ew_47) (fun _ h9 => h9) rfl (by decide +kernel) rfl rfl (Nat.le_of_ble_eq_true rfl) d_P_limitPower_15 (fun H locs hP hD hS => ?_)
    have hP : va_P (dC, dI) vwCl [(h0, .inr (1, [.ref h1, .int 1, .int wr, .int x]))] H := hP
    have hD : va_D A [(h0, .inr (1, [.ref h1, .int 1, .int wr, .int x]))] := hD
    exact ey_vret (W1 := fun (u : Int32) => [(h0, .inr (1, [.ref h1, .int u, .int wr, .int x]))]) hx hb hr hlocks hP hD hS 1 [0] rfl (by decide) (by first | contradiction | (simp only [ep_down, ↓reduceIte, not_true_eq_false, not_false_eq_true, c_7])) d_P_limitPower_18 (Nat.le_of_ble_eq_true rfl) (Nat.le_of_ble_eq_true rfl)
set_option maxHeartbeats 4000000 in
set_option maxRecDepth 100000 in
/-- read(x) -/
theorem c_pl_read (l : Launch) (dC : Nat → ClassId) (dI : Nat → Nat → Nat) (cI cB cJ cZ : ClassId) (h0 h1 : Nat) (dn wr pw : Int32) (n : Nat) (f : ep_F) (x : Int32) (hn : n < 2 ^ 31) : ey_Mi l y_P_read w_P_read { frames := 0, cells := 0, slots := 0, locals := 0 } (dC, dI) vwCl (ey_kt cI cB cJ cZ) [.ref h0, .int x] [(h0, .inr (1, [.ref h1, .int dn, .int wr, .int pw])), (h1, .inl (cB, n, .inl f))] (fun (r : Int32) (u : Unit) => r = ep_read n f x) (fun (u : Unit) => [(h0, .inr (1, [.ref h1, .int dn, .int wr, .int pw])), (h1, .inl (cB, n, .inl f))]) 0 0 := by
  intro sz
  refine Met.ofW (cc := b_P_read) (maxL := 2) (ret := (some .int)) (by decide) rfl ?_
  intro p e s m args below meth c s₁ B hml hv
  obtain ⟨rfl, hsz, hP, hK, hG, hD0⟩ := hv
  have hx := B.exec
  have hb := B.bytes
  have hr := B.returns
  have hts := fun (w : Cond) (h : w ∈ ew_T) => atoms_spec (ws := w_P_read) B.pre w (List.mem_cons_of_mem _ h)
  have hown : s.vm.findClass R_P = some m.cls := findClass_of_methodNamed B.named
  have hlocks := B.notSynchronized
  subst hsz
  have hD := hD0.self (sz := s.heap.size)
  generalize hAe : va_A [(h0, .inr (1, [.ref h1, .int dn, .int wr, .int pw])), (h1, .inl (cB, n, .inl f))] s.heap.size = A at hD ⊢
  have hA : ∀ q : Nat, s.heap.size ≤ q → A q := fun q h => by rw [← hAe]; exact Or.inr h
  have hS : va_S A s.heap s.heap [] := va_S.rf
  have hP : va_P (dC, dI) vwCl [(h0, .inr (1, [.ref h1, .int dn, .int wr, .int pw])), (h1, .inl (cB, n, .inl f))] s.heap := hP
  have hl := lv_entry ([.ref h0, .int x]) (n := 2) (Nat.le_of_ble_eq_true rfl)
  rw [lg_entry_eq]
  generalize (lg_sl ([.ref h0, .int x]) ++ List.replicate (2 - (lg_sl ([.ref h0, .int x])).length) Slot.unset).toArray = ls at hl ⊢
  have hl : lv_has ls 2 [(0, .ref h0), (1, .int x)] := hl
  refine lv_iload_n hx hb d_P_read_0 rfl (lv_at hl 1 rfl) ?_
  refine lv_if_lt (tgt := 26) hx hb d_P_read_1 (by decide) (fun c_1 => ?_) (fun c_1 => ?_)
  · refine lv_iconst (v := 0) hx hb d_P_read_26 (by decide) ?_
    exact ey_iret (W1 := fun (u : Unit) => [(h0, .inr (1, [.ref h1, .int dn, .int wr, .int pw])), (h1, .inl (cB, n, .inl f))]) hx hb hr hlocks hP hD hS () [0, 1] rfl (by decide) (by first | contradiction | (simp only [ep_read, ↓reduceIte, not_true_eq_false, not_false_eq_true, c_1])) d_P_read_27 (Nat.le_of_ble_eq_true rfl) (Nat.le_of_ble_eq_true rfl)
  · refine lv_iload_n hx hb d_P_read_4 rfl (lv_at hl 1 rfl) ?_
    refine lv_aload_n hx hb d_P_read_5 rfl (lv_at hl 0 rfl) ?_
    refine va_get (D := (dC, dI)) (ci := 1) (v := .ref h1) (C := R_P) (T := T_P) (N := 4) hx hb hts in_P hown hK hP 0 rfl rfl 0 (by decide) (hts _ ew_46) (fun _ h9 => h9) rfl d_P_read_6 ?_
    refine va_alen hx hb hK hP 1 1 rfl rfl (v := nI n) rfl d_P_read_9 ?_
    refine lv_icmp_ge (tgt := 26) hx hb d_P_read_10 (by decide) (fun c_10 => ?_) (fun c_10 => ?_)
    · refine lv_iconst (v := 0) hx hb d_P_read_26 (by decide) ?_
      exact ey_iret (W1 := fun (u : Unit) => [(h0, .inr (1, [.ref h1, .int dn, .int wr, .int pw])), (h1, .inl (cB, n, .inl f))]) hx hb hr hlocks hP hD hS () [0, 1] rfl (by decide) (by first | contradiction | (simp only [ep_read, ↓reduceIte, not_true_eq_false, not_false_eq_true, c_1, c_10])) d_P_read_27 (Nat.le_of_ble_eq_true rfl) (Nat.le_of_ble_eq_true rfl)
    · refine lv_aload_n hx hb d_P_read_13 rfl (lv_at hl 0 rfl) ?_
      refine va_get (D := (dC, dI)) (ci := 1) (v := .ref h1) (C := R_P) (T := T_P) (N := 4) hx hb hts in_P hown hK hP 0 rfl rfl 0 (by decide) (hts _ ew_46) (fun _ h9 => h9) rfl d_P_read_14 ?_
      refine lv_iload_n hx hb d_P_read_17 rfl (lv_at hl 1 rfl) ?_
      refine va_bald hx hb hK hP 1 1 rfl rfl (ey_in hn c_1 c_10) d_P_read_18 ?_
      refine lv_sipush (v := 255) hx hb d_P_read_19 (by decide) ?_
      refine lv_iand hx hb d_P_read_22 ?_
      refine lv_goto (tgt := 27) hx hb d_P_read_23 (by decide) ?_
      exact ey_iret (W1 := fun (u : Unit) => [(h0, .inr (1, [.ref h1, .int dn, .int wr, .int pw])), (h1, .inl (cB, n, .inl f))]) hx hb hr hlocks hP hD hS () [0, 1] rfl (by decide) (by first | contradiction | (simp only [ep_read, ↓reduceIte, not_true_eq_false, not_false_eq_true, c_1, c_10])) d_P_read_27 (Nat.le_of_ble_eq_true rfl) (Nat.le_of_ble_eq_true rfl)
set_option maxHeartbeats 4000000 in
set_option maxRecDepth 100000 in
/-- readInt(x) -/
theorem c_pl_readInt (l : Launch) (dC : Nat → ClassId) (dI : Nat → Nat → Nat) (cI cB cJ cZ : ClassId) (h0 h1 : Nat) (dn wr pw : Int32) (n : Nat) (f : ep_F) (x : Int32) (hn : n < 2 ^ 31) : ey_Mi l y_P_readInt w_P_readInt { frames := 1, cells := 0, slots := 0, locals := 21 } (dC, dI) vwCl (ey_kt cI cB cJ cZ) [.ref h0, .int x] [(h0, .inr (1, [.ref h1, .int dn, .int wr, .int pw])), (h1, .inl (cB, n, .inl f))] (fun (r : Int32) (u : Unit) => r = ep_readInt n f x) (fun (u : Unit) => [(h0, .inr (1, [.ref h1, .int dn, .int wr, .int pw])), (h1, .inl (cB, n, .inl f))]) 0 0 := by
  intro sz
  refine Met.ofW (cc := b_P_readInt) (maxL := 2) (ret := (some .int)) (by decide) rfl ?_
  intro p e s m args below meth c s₁ B hml hv
  obtain ⟨rfl, hsz, hP, hK, hG, hD0⟩ := hv
  have hx := B.exec
  have hb := B.bytes
  have hr := B.returns
  have hts := fun (w : Cond) (h : w ∈ ew_T) => atoms_spec (ws := w_P_readInt) B.pre w (List.mem_cons_of_mem _ h)
  have hown : s.vm.findClass R_P = some m.cls := findClass_of_methodNamed B.named
  have hlocks := B.notSynchronized
  subst hsz
  have hD := hD0.self (sz := s.heap.size)
  generalize hAe : va_A [(h0, .inr (1, [.ref h1, .int dn, .int wr, .int pw])), (h1, .inl (cB, n, .inl f))] s.heap.size = A at hD ⊢
  have hA : ∀ q : Nat, s.heap.size ≤ q → A q := fun q h => by rw [← hAe]; exact Or.inr h
  have hS : va_S A s.heap s.heap [] := va_S.rf
  have hP : va_P (dC, dI) vwCl [(h0, .inr (1, [.ref h1, .int dn, .int wr, .int pw])), (h1, .inl (cB, n, .inl f))] s.heap := hP
  have hl := lv_entry ([.ref h0, .int x]) (n := 2) (Nat.le_of_ble_eq_true rfl)
  rw [lg_entry_eq]
  generalize (lg_sl ([.ref h0, .int x]) ++ List.replicate (2 - (lg_sl ([.ref h0, .int x])).length) Slot.unset).toArray = ls at hl ⊢
  have hl : lv_has ls 2 [(0, .ref h0), (1, .int x)] := hl
  refine lv_aload_n hx hb d_P_readInt_0 rfl (lv_at hl 0 rfl) ?_
  refine lv_iload_n hx hb d_P_readInt_1 rfl (lv_at hl 1 rfl) ?_
  refine ey_Vi (Wc := [(h0, .inr (1, [.ref h1, .int dn, .int wr, .int pw])), (h1, .inl (cB, n, .inl f))]) (wr := []) (As := [.int x]) (rest := []) ⟨hx, hb, hml, hown, hts⟩ (c_pl_read l dC dI cI cB cJ cZ h0 h1 dn wr pw n f x hn) (cwV 1 hts (ew_V ew_154 ew_155 ew_156 ew_15 g_P_read) rfl rfl rfl (by decide +kernel) ⟨Nat.le_of_ble_eq_true rfl, Nat.le_of_ble_eq_true rfl⟩) hK hG hP hD hS hA [0, 1] [] rfl rfl (by decide) (by decide) (by decide) (ci := 1) (q0 := 0) rfl rfl rfl hl.1 rfl (Nat.le_of_ble_eq_true rfl) d_P_readInt_2 ⟨Nat.le_of_ble_eq_true rfl, Nat.le_of_ble_eq_true rfl⟩ (fun r_1 u_2 H locs e_3 hP hD hS => ?_)
  have hP : va_P (dC, dI) vwCl [(h0, .inr (1, [.ref h1, .int dn, .int wr, .int pw])), (h1, .inl (cB, n, .inl f))] H := hP
  have hD : va_D A [(h0, .inr (1, [.ref h1, .int dn, .int wr, .int pw])), (h1, .inl (cB, n, .inl f))] := hD
  subst e_3
  refine lv_bipush (v := 24) hx hb d_P_readInt_5 (by decide) ?_
  refine lv_ishl hx hb d_P_readInt_7 ?_
  refine lv_aload_n hx hb d_P_readInt_8 rfl (lv_at hl 0 rfl) ?_
  refine lv_iload_n hx hb d_P_readInt_9 rfl (lv_at hl 1 rfl) ?_
  refine lv_iconst (v := 1) hx hb d_P_readInt_10 (by decide) ?_
  refine lv_iadd hx hb d_P_readInt_11 ?_
  refine ey_Vi (Wc := [(h0, .inr (1, [.ref h1, .int dn, .int wr, .int pw])), (h1, .inl (cB, n, .inl f))]) (wr := []) (As := [.int (x + 1)]) (rest := [.int ((ep_read n f x) <<< (24 &&& 31))]) ⟨hx, hb, hml, hown, hts⟩ (c_pl_read l dC dI cI cB cJ cZ h0 h1 dn wr pw n f (x + 1) hn) (cwV 1 hts (ew_V ew_154 ew_155 ew_156 ew_15 g_P_read) rfl rfl rfl (by decide +kernel) ⟨Nat.le_of_ble_eq_true rfl, Nat.le_of_ble_eq_true rfl⟩) hK hG hP hD hS hA [0, 1] [] rfl rfl (by decide) (by decide) (by decide) (ci := 1) (q0 := 0) rfl rfl rfl hl.1 rfl (Nat.le_of_ble_eq_true rfl) d_P_readInt_12 ⟨Nat.le_of_ble_eq_true rfl, Nat.le_of_ble_eq_true rfl⟩ (fun r_4 u_5 H locs e_6 hP hD hS => ?_)
  have hP : va_P (dC, dI) vwCl [(h0, .inr (1, [.ref h1, .int dn, .int wr, .int pw])), (h1, .inl (cB, n, .inl f))] H := hP
  have hD : va_D A [(h0, .inr (1, [.ref h1, .int dn, .int wr, .int pw])), (h1, .inl (cB, n, .inl f))] := hD
  subst e_6
  refine lv_bipush (v := 16) hx hb d_P_readInt_15 (by decide) ?_
  refine lv_ishl hx hb d_P_readInt_17 ?_
  refine lv_ior hx hb d_P_readInt_18 ?_
  refine lv_aload_n hx hb d_P_readInt_19 rfl (lv_at hl 0 rfl) ?_
  refine lv_iload_n hx hb d_P_readInt_20 rfl (lv_at hl 1 rfl) ?_
  refine lv_iconst (v := 2) hx hb d_P_readInt_21 (by decide) ?_
  refine lv_iadd hx hb d_P_readInt_22 ?_
  refine ey_Vi (Wc := [(h0, .inr (1, [.ref h1, .int dn, .int wr, .int pw])), (h1, .inl (cB, n, .inl f))]) (wr := []) (As := [.int (x + 2)]) (rest := [.int (((ep_read n f x) <<< (24 &&& 31)) ||| ((ep_read n f (x + 1)) <<< (16 &&& 31)))]) ⟨hx, hb, hml, hown, hts⟩ (c_pl_read l dC dI cI cB cJ cZ h0 h1 dn wr pw n f (x + 2) hn) (cwV 1 hts (ew_V ew_154 ew_155 ew_156 ew_15 g_P_read) rfl rfl rfl (by decide +kernel) ⟨Nat.le_of_ble_eq_true rfl, Nat.le_of_ble_eq_true rfl⟩) hK hG hP hD hS hA [0, 1] [] rfl rfl (by decide) (by decide) (by decide) (ci := 1) (q0 := 0) rfl rfl rfl hl.1 rfl (Nat.le_of_ble_eq_true rfl) d_P_readInt_23 ⟨Nat.le_of_ble_eq_true rfl, Nat.le_of_ble_eq_true rfl⟩ (fun r_7 u_8 H locs e_9 hP hD hS => ?_)
  have hP : va_P (dC, dI) vwCl [(h0, .inr (1, [.ref h1, .int dn, .int wr, .int pw])), (h1, .inl (cB, n, .inl f))] H := hP
  have hD : va_D A [(h0, .inr (1, [.ref h1, .int dn, .int wr, .int pw])), (h1, .inl (cB, n, .inl f))] := hD
  subst e_9
  refine lv_bipush (v := 8) hx hb d_P_readInt_26 (by decide) ?_
  refine lv_ishl hx hb d_P_readInt_28 ?_
  refine lv_ior hx hb d_P_readInt_29 ?_
  refine lv_aload_n hx hb d_P_readInt_30 rfl (lv_at hl 0 rfl) ?_
  refine lv_iload_n hx hb d_P_readInt_31 rfl (lv_at hl 1 rfl) ?_
  refine lv_iconst (v := 3) hx hb d_P_readInt_32 (by decide) ?_
  refine lv_iadd hx hb d_P_readInt_33 ?_
  refine ey_Vi (Wc := [(h0, .inr (1, [.ref h1, .int dn, .int wr, .int pw])), (h1, .inl (cB, n, .inl f))]) (wr := []) (As := [.int (x + 3)]) (rest := [.int ((((ep_read n f x) <<< (24 &&& 31)) ||| ((ep_read n f (x + 1)) <<< (16 &&& 31))) ||| ((ep_read n f (x + 2)) <<< (8 &&& 31)))]) ⟨hx, hb, hml, hown, hts⟩ (c_pl_read l dC dI cI cB cJ cZ h0 h1 dn wr pw n f (x + 3) hn) (cwV 1 hts (ew_V ew_154 ew_155 ew_156 ew_15 g_P_read) rfl rfl rfl (by decide +kernel) ⟨Nat.le_of_ble_eq_true rfl, Nat.le_of_ble_eq_true rfl⟩) hK hG hP hD hS hA [0, 1] [] rfl rfl (by decide) (by decide) (by decide) (ci := 1) (q0 := 0) rfl rfl rfl hl.1 rfl (Nat.le_of_ble_eq_true rfl) d_P_readInt_34 ⟨Nat.le_of_ble_eq_true rfl, Nat.le_of_ble_eq_true rfl⟩ (fun r_10 u_11 H locs e_12 hP hD hS => ?_)
  have hP : va_P (dC, dI) vwCl [(h0, .inr (1, [.ref h1, .int dn, .int wr, .int pw])), (h1, .inl (cB, n, .inl f))] H := hP
  have hD : va_D A [(h0, .inr (1, [.ref h1, .int dn, .int wr, .int pw])), (h1, .inl (cB, n, .inl f))] := hD
  subst e_12
  refine lv_ior hx hb d_P_readInt_37 ?_
  exact ey_iret (W1 := fun (u : Unit) => [(h0, .inr (1, [.ref h1, .int dn, .int wr, .int pw])), (h1, .inl (cB, n, .inl f))]) hx hb hr hlocks hP hD hS () [0, 1] rfl (by decide) rfl d_P_readInt_38 (Nat.le_of_ble_eq_true rfl) (Nat.le_of_ble_eq_true rfl)
set_option maxHeartbeats 4000000 in
set_option maxRecDepth 100000 in
/-- writeBlock(bl, g, fr) -/
theorem c_pl_write (l : Launch) (dC : Nat → ClassId) (dI : Nat → Nat → Nat) (cI cB cJ cZ : ClassId) (h0 h1 : Nat) (dn wr pw : Int32) (n : Nat) (f : ep_F) (bl : Int32) (h2 ns : Nat) (g : ep_F) (fr : Int32) (hn : n < 2 ^ 30) (hs : ns < 2 ^ 30) (hn4 : 4096 ≤ n) (hs4 : 4096 ≤ ns) (hg : sb_Fit g) : ey_Mi l y_P_writeBlock w_P_writeBlock { frames := 1, cells := 0, slots := 0, locals := 21 } (dC, dI) vwCl (ey_kt cI cB cJ cZ) [.ref h0, .int bl, .ref h2, .int fr] [(h0, .inr (1, [.ref h1, .int dn, .int wr, .int pw])), (h1, .inl (cB, n, .inl f)), (h2, .inl (cB, ns, .inl g))] (fun (r : Int32) (u : ep_P) => (r, u) = ep_write n (f, dn, wr, pw) ns g bl fr) (fun (u : ep_P) => [(h0, .inr (1, [.ref h1, .int u.2.1, .int u.2.2.1, .int u.2.2.2])), (h1, .inl (cB, n, .inl u.1)), (h2, .inl (cB, ns, .inl g))]) 0 0 := by
  intro sz
  refine Met.ofW (cc := b_P_writeBlock) (maxL := 5) (ret := (some .boolean)) (by decide) rfl ?_
  intro p e s m args below meth c s₁ B hml hv
  obtain ⟨rfl, hsz, hP, hK, hG, hD0⟩ := hv
  have hx := B.exec
  have hb := B.bytes
  have hr := B.returns
  have hts := fun (w : Cond) (h : w ∈ ew_T) => atoms_spec (ws := w_P_writeBlock) B.pre w (List.mem_cons_of_mem _ h)
  have hown : s.vm.findClass R_P = some m.cls := findClass_of_methodNamed B.named
  have hlocks := B.notSynchronized
  subst hsz
  have hD := hD0.self (sz := s.heap.size)
  generalize hAe : va_A [(h0, .inr (1, [.ref h1, .int dn, .int wr, .int pw])), (h1, .inl (cB, n, .inl f)), (h2, .inl (cB, ns, .inl g))] s.heap.size = A at hD ⊢
  have hA : ∀ q : Nat, s.heap.size ≤ q → A q := fun q h => by rw [← hAe]; exact Or.inr h
  have hS : va_S A s.heap s.heap [] := va_S.rf
  have hP : va_P (dC, dI) vwCl [(h0, .inr (1, [.ref h1, .int dn, .int wr, .int pw])), (h1, .inl (cB, n, .inl f)), (h2, .inl (cB, ns, .inl g))] s.heap := hP
  have hl := lv_entry ([.ref h0, .int bl, .ref h2, .int fr]) (n := 5) (Nat.le_of_ble_eq_true rfl)
  rw [lg_entry_eq]
  generalize (lg_sl ([.ref h0, .int bl, .ref h2, .int fr]) ++ List.replicate (5 - (lg_sl ([.ref h0, .int bl, .ref h2, .int fr])).length) Slot.unset).toArray = ls at hl ⊢
  have hl : lv_has ls 5 [(0, .ref h0), (1, .int bl), (2, .ref h2), (3, .int fr)] := hl
  refine lv_iload_n hx hb d_P_writeBlock_0 rfl (lv_at hl 1 rfl) ?_
  refine lv_sipush (v := 4096) hx hb d_P_writeBlock_1 (by decide) ?_
  refine lv_imul hx hb d_P_writeBlock_4 ?_
  refine lv_istore (lv' := [(4, .int (bl * 4096)), (0, .ref h0), (1, .int bl), (2, .ref h2), (3, .int fr)]) hx hb d_P_writeBlock_5 hl (by decide) rfl (fun ls hl => ?_)
  refine lv_aload_n hx hb d_P_writeBlock_7 rfl (lv_at hl 1 rfl) ?_
  refine va_get (D := (dC, dI)) (ci := 1) (v := .int dn) (C := R_P) (T := T_P) (N := 4) hx hb hts in_P hown hK hP 0 rfl rfl 1 (by decide) (hts _ ew_47) (fun _ h9 => h9) rfl d_P_writeBlock_8 ?_
  refine lv_if_ne (tgt := 47) hx hb d_P_writeBlock_11 (by decide) (fun c_11 => ?_) (fun c_11 => ?_)
  · refine lv_iconst (v := 0) hx hb d_P_writeBlock_47 (by decide) ?_
    exact ey_zret (W1 := fun (u : ep_P) => [(h0, .inr (1, [.ref h1, .int u.2.1, .int u.2.2.1, .int u.2.2.2])), (h1, .inl (cB, n, .inl u.1)), (h2, .inl (cB, ns, .inl g))]) hx hb hr hlocks hP hD hS (f, dn, wr, pw) [0, 1, 2] rfl (by decide) (by first | contradiction | (simp only [ep_write, ep_not, ↓reduceIte, not_true_eq_false, not_false_eq_true, c_11])) d_P_writeBlock_48 (Nat.le_of_ble_eq_true rfl) (Nat.le_of_ble_eq_true rfl) rfl
  · refine lv_iload hx hb d_P_writeBlock_14 (lv_at hl 0 rfl) ?_
    refine lv_if_lt (tgt := 47) hx hb d_P_writeBlock_16 (by decide) (fun c_16 => ?_) (fun c_16 => ?_)
    · refine lv_iconst (v := 0) hx hb d_P_writeBlock_47 (by decide) ?_
      exact ey_zret (W1 := fun (u : ep_P) => [(h0, .inr (1, [.ref h1, .int u.2.1, .int u.2.2.1, .int u.2.2.2])), (h1, .inl (cB, n, .inl u.1)), (h2, .inl (cB, ns, .inl g))]) hx hb hr hlocks hP hD hS (f, dn, wr, pw) [0, 1, 2] rfl (by decide) (by first | contradiction | (simp only [ep_write, ep_not, ↓reduceIte, not_true_eq_false, not_false_eq_true, c_11, c_16])) d_P_writeBlock_48 (Nat.le_of_ble_eq_true rfl) (Nat.le_of_ble_eq_true rfl) rfl
    · refine lv_iload hx hb d_P_writeBlock_19 (lv_at hl 0 rfl) ?_
      refine lv_aload_n hx hb d_P_writeBlock_21 rfl (lv_at hl 1 rfl) ?_
      refine va_get (D := (dC, dI)) (ci := 1) (v := .ref h1) (C := R_P) (T := T_P) (N := 4) hx hb hts in_P hown hK hP 0 rfl rfl 0 (by decide) (hts _ ew_46) (fun _ h9 => h9) rfl d_P_writeBlock_22 ?_
      refine va_alen hx hb hK hP 1 1 rfl rfl (v := nI n) rfl d_P_writeBlock_25 ?_
      refine lv_sipush (v := 4096) hx hb d_P_writeBlock_26 (by decide) ?_
      refine lv_isub hx hb d_P_writeBlock_29 ?_
      refine lv_icmp_gt (tgt := 47) hx hb d_P_writeBlock_30 (by decide) (fun c_30 => ?_) (fun c_30 => ?_)
      · refine lv_iconst (v := 0) hx hb d_P_writeBlock_47 (by decide) ?_
        exact ey_zret (W1 := fun (u : ep_P) => [(h0, .inr (1, [.ref h1, .int u.2.1, .int u.2.2.1, .int u.2.2.2])), (h1, .inl (cB, n, .inl u.1)), (h2, .inl (cB, ns, .inl g))]) hx hb hr hlocks hP hD hS (f, dn, wr, pw) [0, 1, 2] rfl (by decide) (by first | contradiction | (simp only [ep_write, ep_not, ↓reduceIte, not_true_eq_false, not_false_eq_true, c_11, c_16, c_30])) d_P_writeBlock_48 (Nat.le_of_ble_eq_true rfl) (Nat.le_of_ble_eq_true rfl) rfl
      · refine lv_iload_n hx hb d_P_writeBlock_33 rfl (lv_at hl 4 rfl) ?_
        refine lv_if_lt (tgt := 47) hx hb d_P_writeBlock_34 (by decide) (fun c_34 => ?_) (fun c_34 => ?_)
        · refine lv_iconst (v := 0) hx hb d_P_writeBlock_47 (by decide) ?_
          exact ey_zret (W1 := fun (u : ep_P) => [(h0, .inr (1, [.ref h1, .int u.2.1, .int u.2.2.1, .int u.2.2.2])), (h1, .inl (cB, n, .inl u.1)), (h2, .inl (cB, ns, .inl g))]) hx hb hr hlocks hP hD hS (f, dn, wr, pw) [0, 1, 2] rfl (by decide) (by first | contradiction | (simp only [ep_write, ep_not, ↓reduceIte, not_true_eq_false, not_false_eq_true, c_11, c_16, c_30, c_34])) d_P_writeBlock_48 (Nat.le_of_ble_eq_true rfl) (Nat.le_of_ble_eq_true rfl) rfl
        · refine lv_iload_n hx hb d_P_writeBlock_37 rfl (lv_at hl 4 rfl) ?_
          refine lv_aload_n hx hb d_P_writeBlock_38 rfl (lv_at hl 3 rfl) ?_
          refine va_alen hx hb hK hP 2 1 rfl rfl (v := nI ns) rfl d_P_writeBlock_39 ?_
          refine lv_sipush (v := 4096) hx hb d_P_writeBlock_40 (by decide) ?_
          refine lv_isub hx hb d_P_writeBlock_43 ?_
          refine lv_icmp_le (tgt := 49) hx hb d_P_writeBlock_44 (by decide) (fun c_44 => ?_) (fun c_44 => ?_)
          · refine lv_aload_n hx hb d_P_writeBlock_49 rfl (lv_at hl 3 rfl) ?_
            refine lv_iload_n hx hb d_P_writeBlock_50 rfl (lv_at hl 4 rfl) ?_
            refine lv_aload_n hx hb d_P_writeBlock_51 rfl (lv_at hl 1 rfl) ?_
            refine va_get (D := (dC, dI)) (ci := 1) (v := .ref h1) (C := R_P) (T := T_P) (N := 4) hx hb hts in_P hown hK hP 0 rfl rfl 0 (by decide) (hts _ ew_46) (fun _ h9 => h9) rfl d_P_writeBlock_52 ?_
            refine lv_iload hx hb d_P_writeBlock_55 (lv_at hl 0 rfl) ?_
            refine lv_sipush (v := 4096) hx hb d_P_writeBlock_57 (by decide) ?_
            refine va_copyi hx hb (by rw [hml]; exact hl.1.symm) hown (hts _ ew_349) (hts _ ew_169) (hts _ ew_168) (hts _ ew_25) hK hP hD hS 2 1 1 1 rfl rfl rfl rfl rfl c_34 c_16 (by decide) (ey_cp hs hs4 c_34 c_44) (ey_cp2 hn hn4 c_16 c_30) (fun i _ => hg _) (Nat.le_of_ble_eq_true rfl) (Nat.le_of_ble_eq_true rfl) d_P_writeBlock_60 (fun H locs hP hD hS => ?_)
            have hP : va_P (dC, dI) vwCl [(h0, .inr (1, [.ref h1, .int dn, .int wr, .int pw])), (h1, .inl (cB, n, .inl (va_cpy g f fr.toNatClampNeg (bl * 4096).toNatClampNeg (4096 : Int32).toNatClampNeg))), (h2, .inl (cB, ns, .inl g))] H := hP
            have hD : va_D A [(h0, .inr (1, [.ref h1, .int dn, .int wr, .int pw])), (h1, .inl (cB, n, .inl (va_cpy g f fr.toNatClampNeg (bl * 4096).toNatClampNeg (4096 : Int32).toNatClampNeg))), (h2, .inl (cB, ns, .inl g))] := hD
            refine lv_aload_n hx hb d_P_writeBlock_63 rfl (lv_at hl 1 rfl) ?_
            refine lv_dup hx hb d_P_writeBlock_64 rfl ?_
            refine va_get (D := (dC, dI)) (ci := 1) (v := .int wr) (C := R_P) (T := T_P) (N := 4) hx hb hts in_P hown hK hP 0 rfl rfl 2 (by decide) (hts _ ew_49) (fun _ h9 => h9) rfl d_P_writeBlock_65 ?_
            refine lv_iconst (v := 1) hx hb d_P_writeBlock_68 (by decide) ?_
            refine lv_iadd hx hb d_P_writeBlock_69 ?_
            refine va_put (D := (dC, dI)) (ci := 1) (v := .int (wr + 1)) (ty := .int) (C := R_P) (T := T_P) (N := 4) hx hb hts in_P t_P t_P_ok n_P hown hK hP hD hS 0 rfl rfl 2 (by decide) (hts _ ew_49) (fun _ h9 => h9) rfl (by decide +kernel) rfl rfl (Nat.le_of_ble_eq_true rfl) d_P_writeBlock_70 (fun H locs hP hD hS => ?_)
            have hP : va_P (dC, dI) vwCl [(h0, .inr (1, [.ref h1, .int dn, .int (wr + 1), .int pw])), (h1, .inl (cB, n, .inl (va_cpy g f fr.toNatClampNeg (bl * 4096).toNatClampNeg (4096 : Int32).toNatClampNeg))), (h2, .inl (cB, ns, .inl g))] H := hP
            have hD : va_D A [(h0, .inr (1, [.ref h1, .int dn, .int (wr + 1), .int pw])), (h1, .inl (cB, n, .inl (va_cpy g f fr.toNatClampNeg (bl * 4096).toNatClampNeg (4096 : Int32).toNatClampNeg))), (h2, .inl (cB, ns, .inl g))] := hD
            refine lv_aload_n hx hb d_P_writeBlock_73 rfl (lv_at hl 1 rfl) ?_
            refine va_get (D := (dC, dI)) (ci := 1) (v := .int pw) (C := R_P) (T := T_P) (N := 4) hx hb hts in_P hown hK hP 0 rfl rfl 3 (by decide) (hts _ ew_51) (fun _ h9 => h9) rfl d_P_writeBlock_74 ?_
            refine lv_if_le (tgt := 90) hx hb d_P_writeBlock_77 (by decide) (fun c_77 => ?_) (fun c_77 => ?_)
            · refine lv_aload_n hx hb d_P_writeBlock_90 rfl (lv_at hl 1 rfl) ?_
              refine va_get (D := (dC, dI)) (ci := 1) (v := .int dn) (C := R_P) (T := T_P) (N := 4) hx hb hts in_P hown hK hP 0 rfl rfl 1 (by decide) (hts _ ew_47) (fun _ h9 => h9) rfl d_P_writeBlock_91 ?_
              refine lv_if_ne (tgt := 101) hx hb d_P_writeBlock_94 (by decide) (fun c_94 => ?_) (fun c_94 => ?_)
              · refine lv_iconst (v := 0) hx hb d_P_writeBlock_101 (by decide) ?_
                exact ey_zret (W1 := fun (u : ep_P) => [(h0, .inr (1, [.ref h1, .int u.2.1, .int u.2.2.1, .int u.2.2.2])), (h1, .inl (cB, n, .inl u.1)), (h2, .inl (cB, ns, .inl g))]) hx hb hr hlocks hP hD hS (va_cpy g f fr.toNatClampNeg (bl * 4096).toNatClampNeg (4096 : Int32).toNatClampNeg, dn, wr + 1, pw) [0, 1, 2] rfl (by decide) (by first | contradiction | (simp only [ep_write, ep_not, ↓reduceIte, not_true_eq_false, not_false_eq_true, c_11, c_16, c_30, c_34, c_44, c_77, c_94])) d_P_writeBlock_102 (Nat.le_of_ble_eq_true rfl) (Nat.le_of_ble_eq_true rfl) rfl
              · refine lv_iconst (v := 1) hx hb d_P_writeBlock_97 (by decide) ?_
                refine lv_goto (tgt := 102) hx hb d_P_writeBlock_98 (by decide) ?_
                exact ey_zret (W1 := fun (u : ep_P) => [(h0, .inr (1, [.ref h1, .int u.2.1, .int u.2.2.1, .int u.2.2.2])), (h1, .inl (cB, n, .inl u.1)), (h2, .inl (cB, ns, .inl g))]) hx hb hr hlocks hP hD hS (va_cpy g f fr.toNatClampNeg (bl * 4096).toNatClampNeg (4096 : Int32).toNatClampNeg, dn, wr + 1, pw) [0, 1, 2] rfl (by decide) (by first | contradiction | (simp only [ep_write, ep_not, ↓reduceIte, not_true_eq_false, not_false_eq_true, c_11, c_16, c_30, c_34, c_44, c_77, c_94])) d_P_writeBlock_102 (Nat.le_of_ble_eq_true rfl) (Nat.le_of_ble_eq_true rfl) rfl
            · refine lv_aload_n hx hb d_P_writeBlock_80 rfl (lv_at hl 1 rfl) ?_
              refine lv_aload_n hx hb d_P_writeBlock_81 rfl (lv_at hl 1 rfl) ?_
              refine va_get (D := (dC, dI)) (ci := 1) (v := .int pw) (C := R_P) (T := T_P) (N := 4) hx hb hts in_P hown hK hP 0 rfl rfl 3 (by decide) (hts _ ew_51) (fun _ h9 => h9) rfl d_P_writeBlock_82 ?_
              refine lv_iconst (v := 1) hx hb d_P_writeBlock_85 (by decide) ?_
              refine lv_isub hx hb d_P_writeBlock_86 ?_
              refine ey_Vv (Wc := [(h0, .inr (1, [.ref h1, .int dn, .int (wr + 1), .int pw]))]) (wr := [(h1, .inl (cB, n, .inl (va_cpy g f fr.toNatClampNeg (bl * 4096).toNatClampNeg (4096 : Int32).toNatClampNeg))), (h2, .inl (cB, ns, .inl g))]) (As := [.int (pw - 1)]) (rest := []) ⟨hx, hb, hml, hown, hts⟩ (c_pl_limit l dC dI cI cB cJ cZ h0 h1 dn (wr + 1) pw (pw - 1)) (cwV 1 hts (ew_V ew_350 ew_136 ew_137 ew_15 g_P_limitPower) rfl rfl rfl (by decide +kernel) ⟨Nat.le_of_ble_eq_true rfl, Nat.le_of_ble_eq_true rfl⟩) hK hG hP hD hS hA [0] [1, 2] rfl rfl (by decide) (by decide) (by decide) (ci := 1) (q0 := 0) rfl rfl rfl hl.1 rfl (Nat.le_of_ble_eq_true rfl) d_P_writeBlock_87 ⟨Nat.le_of_ble_eq_true rfl, Nat.le_of_ble_eq_true rfl⟩ (fun u_2 H locs e_3 hP hD hS => ?_)
              have hP : va_P (dC, dI) vwCl [(h1, .inl (cB, n, .inl (va_cpy g f fr.toNatClampNeg (bl * 4096).toNatClampNeg (4096 : Int32).toNatClampNeg))), (h2, .inl (cB, ns, .inl g)), (h0, .inr (1, [.ref h1, .int u_2, .int (wr + 1), .int (pw - 1)]))] H := hP
              have hD : va_D A [(h1, .inl (cB, n, .inl (va_cpy g f fr.toNatClampNeg (bl * 4096).toNatClampNeg (4096 : Int32).toNatClampNeg))), (h2, .inl (cB, ns, .inl g)), (h0, .inr (1, [.ref h1, .int u_2, .int (wr + 1), .int (pw - 1)]))] := hD
              subst e_3
              refine lv_aload_n hx hb d_P_writeBlock_90 rfl (lv_at hl 1 rfl) ?_
              refine va_get (D := (dC, dI)) (ci := 1) (v := .int (ep_down (pw - 1))) (C := R_P) (T := T_P) (N := 4) hx hb hts in_P hown hK hP 2 rfl rfl 1 (by decide) (hts _ ew_47) (fun _ h9 => h9) rfl d_P_writeBlock_91 ?_
              refine lv_if_ne (tgt := 101) hx hb d_P_writeBlock_94 (by decide) (fun c_94 => ?_) (fun c_94 => ?_)
              · refine lv_iconst (v := 0) hx hb d_P_writeBlock_101 (by decide) ?_
                exact ey_zret (W1 := fun (u : ep_P) => [(h0, .inr (1, [.ref h1, .int u.2.1, .int u.2.2.1, .int u.2.2.2])), (h1, .inl (cB, n, .inl u.1)), (h2, .inl (cB, ns, .inl g))]) hx hb hr hlocks hP hD hS (va_cpy g f fr.toNatClampNeg (bl * 4096).toNatClampNeg (4096 : Int32).toNatClampNeg, (ep_down (pw - 1)), wr + 1, pw - 1) [2, 0, 1] rfl (by decide) (by first | contradiction | (simp only [ep_write, ep_not, ↓reduceIte, not_true_eq_false, not_false_eq_true, c_11, c_16, c_30, c_34, c_44, c_77, c_94])) d_P_writeBlock_102 (Nat.le_of_ble_eq_true rfl) (Nat.le_of_ble_eq_true rfl) rfl
              · refine lv_iconst (v := 1) hx hb d_P_writeBlock_97 (by decide) ?_
                refine lv_goto (tgt := 102) hx hb d_P_writeBlock_98 (by decide) ?_
                exact ey_zret (W1 := fun (u : ep_P) => [(h0, .inr (1, [.ref h1, .int u.2.1, .int u.2.2.1, .int u.2.2.2])), (h1, .inl (cB, n, .inl u.1)), (h2, .inl (cB, ns, .inl g))]) hx hb hr hlocks hP hD hS (va_cpy g f fr.toNatClampNeg (bl * 4096).toNatClampNeg (4096 : Int32).toNatClampNeg, (ep_down (pw - 1)), wr + 1, pw - 1) [2, 0, 1] rfl (by decide) (by first | contradiction | (simp only [ep_write, ep_not, ↓reduceIte, not_true_eq_false, not_false_eq_true, c_11, c_16, c_30, c_34, c_44, c_77, c_94])) d_P_writeBlock_102 (Nat.le_of_ble_eq_true rfl) (Nat.le_of_ble_eq_true rfl) rfl
          · refine lv_iconst (v := 0) hx hb d_P_writeBlock_47 (by decide) ?_
            exact ey_zret (W1 := fun (u : ep_P) => [(h0, .inr (1, [.ref h1, .int u.2.1, .int u.2.2.1, .int u.2.2.2])), (h1, .inl (cB, n, .inl u.1)), (h2, .inl (cB, ns, .inl g))]) hx hb hr hlocks hP hD hS (f, dn, wr, pw) [0, 1, 2] rfl (by decide) (by first | contradiction | (simp only [ep_write, ep_not, ↓reduceIte, not_true_eq_false, not_false_eq_true, c_11, c_16, c_30, c_34, c_44])) d_P_writeBlock_48 (Nat.le_of_ble_eq_true rfl) (Nat.le_of_ble_eq_true rfl) rfl
