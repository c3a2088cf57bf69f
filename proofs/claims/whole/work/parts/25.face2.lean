set_option maxHeartbeats 4000000 in
set_option maxRecDepth 100000 in
theorem c_ed_isDown (l : Launch) (dC : Nat → ClassId) (dI : Nat → Nat → Nat) (cI cB cJ cZ : ClassId) (d0 pl tp wi pg te nw nx : Nat) (pb : Nat) (dn wr pw : Int32) (hdn : dn = 0 ∨ dn = 1) : ey_Mi l y_D_isDown w_D_isDown { frames := 0, cells := 0, slots := 0, locals := 0 } (dC, dI) vwCl (ey_kt cI cB cJ cZ) [.ref d0] [(d0, .inr (3, [.ref pl, .ref tp, .ref wi, .ref pg, .ref te, .ref nw, .ref nx])), (pl, .inr (1, [.ref pb, .int dn, .int wr, .int pw]))] (fun (r : Int32) (u : Unit) => r = dn) (fun (u : Unit) => [(d0, .inr (3, [.ref pl, .ref tp, .ref wi, .ref pg, .ref te, .ref nw, .ref nx])), (pl, .inr (1, [.ref pb, .int dn, .int wr, .int pw]))]) 0 0 := by
  intro sz
  refine Met.ofW (cc := b_D_isDown) (maxL := 1) (ret := (some .boolean)) (by decide) rfl ?_
  intro p e s m args below meth c s₁ B hml hv
  obtain ⟨rfl, hsz, hP, hK, hG, hD0⟩ := hv
  have hx := B.exec
  have hb := B.bytes
  have hr := B.returns
  have hts := fun (w : Cond) (h : w ∈ ew_T) => atoms_spec (ws := w_D_isDown) B.pre w (List.mem_cons_of_mem _ h)
  have hown : s.vm.findClass R_D = some m.cls := findClass_of_methodNamed B.named
  have hlocks := B.notSynchronized
  subst hsz
  have hD := hD0.self (sz := s.heap.size)
  generalize hAe : va_A [(d0, .inr (3, [.ref pl, .ref tp, .ref wi, .ref pg, .ref te, .ref nw, .ref nx])), (pl, .inr (1, [.ref pb, .int dn, .int wr, .int pw]))] s.heap.size = A at hD ⊢
  have hA : ∀ q : Nat, s.heap.size ≤ q → A q := fun q h => by rw [← hAe]; exact Or.inr h
  have hS : va_S A s.heap s.heap [] := va_S.rf
  have hP : va_P (dC, dI) vwCl [(d0, .inr (3, [.ref pl, .ref tp, .ref wi, .ref pg, .ref te, .ref nw, .ref nx])), (pl, .inr (1, [.ref pb, .int dn, .int wr, .int pw]))] s.heap := hP
  have hl := lv_entry ([.ref d0]) (n := 1) (Nat.le_of_ble_eq_true rfl)
  rw [lg_entry_eq]
  generalize (lg_sl ([.ref d0]) ++ List.replicate (1 - (lg_sl ([.ref d0])).length) Slot.unset).toArray = ls at hl ⊢
  have hl : lv_has ls 1 [(0, .ref d0)] := hl
  refine lv_aload_n hx hb d_D_isDown_0 rfl (lv_at hl 0 rfl) ?_
  refine va_get (D := (dC, dI)) (ci := 3) (v := .ref pl) (C := R_D) (T := T_D) (N := 7) hx hb hts in_D hown hK hP 0 rfl rfl 0 (by decide) (hts _ ew_109) (fun _ h9 => h9) rfl d_D_isDown_1 ?_
  refine va_get (D := (dC, dI)) (ci := 1) (v := .int dn) (C := R_P) (T := T_P) (N := 4) hx hb hts in_P hown hK hP 1 rfl rfl 1 (by decide) (hts _ ew_48) (fun _ h9 => h9) rfl d_D_isDown_4 ?_
  exact ey_zret (W1 := fun (u : Unit) => [(d0, .inr (3, [.ref pl, .ref tp, .ref wi, .ref pg, .ref te, .ref nw, .ref nx])), (pl, .inr (1, [.ref pb, .int dn, .int wr, .int pw]))]) hx hb hr hlocks hP hD hS () [0, 1] rfl (by decide) rfl d_D_isDown_7 (Nat.le_of_ble_eq_true rfl) (Nat.le_of_ble_eq_true rfl) (by rcases hdn with h | h <;> rw [h] <;> rfl)
set_option maxHeartbeats 4000000 in
set_option maxRecDepth 100000 in
theorem c_ed_writes (l : Launch) (dC : Nat → ClassId) (dI : Nat → Nat → Nat) (cI cB cJ cZ : ClassId) (d0 pl tp wi pg te nw nx : Nat) (pb : Nat) (dn wr pw : Int32) : ey_Mi l y_D_writes w_D_writes { frames := 0, cells := 0, slots := 0, locals := 0 } (dC, dI) vwCl (ey_kt cI cB cJ cZ) [.ref d0] [(d0, .inr (3, [.ref pl, .ref tp, .ref wi, .ref pg, .ref te, .ref nw, .ref nx])), (pl, .inr (1, [.ref pb, .int dn, .int wr, .int pw]))] (fun (r : Int32) (u : Unit) => r = wr) (fun (u : Unit) => [(d0, .inr (3, [.ref pl, .ref tp, .ref wi, .ref pg, .ref te, .ref nw, .ref nx])), (pl, .inr (1, [.ref pb, .int dn, .int wr, .int pw]))]) 0 0 := by
  intro sz
  refine Met.ofW (cc := b_D_writes) (maxL := 1) (ret := (some .int)) (by decide) rfl ?_
  intro p e s m args below meth c s₁ B hml hv
  obtain ⟨rfl, hsz, hP, hK, hG, hD0⟩ := hv
  have hx := B.exec
  have hb := B.bytes
  have hr := B.returns
  have hts := fun (w : Cond) (h : w ∈ ew_T) => atoms_spec (ws := w_D_writes) B.pre w (List.mem_cons_of_mem _ h)
  have hown : s.vm.findClass R_D = some m.cls := findClass_of_methodNamed B.named
  have hlocks := B.notSynchronized
  subst hsz
  have hD := hD0.self (sz := s.heap.size)
  generalize hAe : va_A [(d0, .inr (3, [.ref pl, .ref tp, .ref wi, .ref pg, .ref te, .ref nw, .ref nx])), (pl, .inr (1, [.ref pb, .int dn, .int wr, .int pw]))] s.heap.size = A at hD ⊢
  have hA : ∀ q : Nat, s.heap.size ≤ q → A q := fun q h => by rw [← hAe]; exact Or.inr h
  have hS : va_S A s.heap s.heap [] := va_S.rf
  have hP : va_P (dC, dI) vwCl [(d0, .inr (3, [.ref pl, .ref tp, .ref wi, .ref pg, .ref te, .ref nw, .ref nx])), (pl, .inr (1, [.ref pb, .int dn, .int wr, .int pw]))] s.heap := hP
  have hl := lv_entry ([.ref d0]) (n := 1) (Nat.le_of_ble_eq_true rfl)
  rw [lg_entry_eq]
  generalize (lg_sl ([.ref d0]) ++ List.replicate (1 - (lg_sl ([.ref d0])).length) Slot.unset).toArray = ls at hl ⊢
  have hl : lv_has ls 1 [(0, .ref d0)] := hl
  refine lv_aload_n hx hb d_D_writes_0 rfl (lv_at hl 0 rfl) ?_
  refine va_get (D := (dC, dI)) (ci := 3) (v := .ref pl) (C := R_D) (T := T_D) (N := 7) hx hb hts in_D hown hK hP 0 rfl rfl 0 (by decide) (hts _ ew_109) (fun _ h9 => h9) rfl d_D_writes_1 ?_
  refine va_get (D := (dC, dI)) (ci := 1) (v := .int wr) (C := R_P) (T := T_P) (N := 4) hx hb hts in_P hown hK hP 1 rfl rfl 2 (by decide) (hts _ ew_50) (fun _ h9 => h9) rfl d_D_writes_4 ?_
  exact ey_iret (W1 := fun (u : Unit) => [(d0, .inr (3, [.ref pl, .ref tp, .ref wi, .ref pg, .ref te, .ref nw, .ref nx])), (pl, .inr (1, [.ref pb, .int dn, .int wr, .int pw]))]) hx hb hr hlocks hP hD hS () [0, 1] rfl (by decide) rfl d_D_writes_7 (Nat.le_of_ble_eq_true rfl) (Nat.le_of_ble_eq_true rfl)
set_option maxHeartbeats 4000000 in
set_option maxRecDepth 100000 in
theorem c_ed_crash (l : Launch) (dC : Nat → ClassId) (dI : Nat → Nat → Nat) (cI cB cJ cZ : ClassId) (hl9 : l.stackTraces = false) (d0 pl tp wi pg te nw nx : Nat) (pb : Nat) (dn wr pw : Int32) (tb : Nat) (ln : Int32) (n1 n2 n3 n4 : Nat) (ex ch : Int32) (no wf : ep_F) (x : Int32) : ey_Xv l y_D_crash w_D_crash { frames := 6, cells := 1, slots := 6, locals := 90 } (dC, dI) vwCl (ey_kt cI cB cJ cZ) [.ref d0, .int x] [(d0, .inr (3, [.ref pl, .ref tp, .ref wi, .ref pg, .ref te, .ref nw, .ref nx])), (pl, .inr (1, [.ref pb, .int dn, .int wr, .int pw])), (tp, .inr (2, [.ref tb, .int ln])), (nw, .inr (0, [.ref n1, .ref n2, .ref n3, .ref n4, .int ex, .int ch])), (n4, .inl (cI, 24, .inl no)), (wi, .inl (cI, 24, .inl wf))] (fun (u : Int32 × Int32 × Int32 × Int32 × ep_F × ep_F) => ep_kcrash dn x = 0 ∧ u = ep_crash x ln ex ch no wf) (fun (u : Int32 × Int32 × Int32 × Int32 × ep_F × ep_F) => [(d0, .inr (3, [.ref pl, .ref tp, .ref wi, .ref pg, .ref te, .ref nw, .ref nx])), (pl, .inr (1, [.ref pb, .int u.1, .int wr, .int x])), (tp, .inr (2, [.ref tb, .int u.2.1])), (nw, .inr (0, [.ref n1, .ref n2, .ref n3, .ref n4, .int u.2.2.1, .int u.2.2.2.1])), (n4, .inl (cI, 24, .inl u.2.2.2.2.1)), (wi, .inl (cI, 24, .inl u.2.2.2.2.2))]) (fun E => (E = "java/lang/IllegalArgumentException" ∧ ep_kcrash dn x = 1) ∨ (E = "java/lang/IllegalStateException" ∧ ep_kcrash dn x = 2)) 1 6 := by
  intro sz
  refine vx_ofW (cc := b_D_crash) (maxL := 2) (ret := none) (by decide) rfl ?_
  intro p e s m args below meth c s₁ B hml hno hv
  obtain ⟨rfl, hZ, hsz, hP, hK, hG, hD0⟩ := hv
  have hx := B.exec
  have hb := B.bytes
  have hr := B.returns
  have hts := fun (w : Cond) (h : w ∈ ew_T) => atoms_spec (ws := w_D_crash) B.pre w (List.mem_cons_of_mem _ h)
  have hown : s.vm.findClass R_D = some m.cls := findClass_of_methodNamed B.named
  have hlocks := B.notSynchronized
  subst hsz
  have hD := hD0.self (sz := s.heap.size)
  generalize hAe : va_A [(d0, .inr (3, [.ref pl, .ref tp, .ref wi, .ref pg, .ref te, .ref nw, .ref nx])), (pl, .inr (1, [.ref pb, .int dn, .int wr, .int pw])), (tp, .inr (2, [.ref tb, .int ln])), (nw, .inr (0, [.ref n1, .ref n2, .ref n3, .ref n4, .int ex, .int ch])), (n4, .inl (cI, 24, .inl no)), (wi, .inl (cI, 24, .inl wf))] s.heap.size = A at hD hZ ⊢
  have hA : ∀ q : Nat, s.heap.size ≤ q → A q := fun q h => by rw [← hAe]; exact Or.inr h
  have hS : va_S A s.heap s.heap [] := va_S.rf
  have hP : va_P (dC, dI) vwCl [(d0, .inr (3, [.ref pl, .ref tp, .ref wi, .ref pg, .ref te, .ref nw, .ref nx])), (pl, .inr (1, [.ref pb, .int dn, .int wr, .int pw])), (tp, .inr (2, [.ref tb, .int ln])), (nw, .inr (0, [.ref n1, .ref n2, .ref n3, .ref n4, .int ex, .int ch])), (n4, .inl (cI, 24, .inl no)), (wi, .inl (cI, 24, .inl wf))] s.heap := hP
  have hl := lv_entry ([.ref d0, .int x]) (n := 2) (Nat.le_of_ble_eq_true rfl)
  rw [lg_entry_eq]
  generalize (lg_sl ([.ref d0, .int x]) ++ List.replicate (2 - (lg_sl ([.ref d0, .int x])).length) Slot.unset).toArray = ls at hl ⊢
  have hl : lv_has ls 2 [(0, .ref d0), (1, .int x)] := hl
  refine lv_iload_n hx hb d_D_crash_0 rfl (lv_at hl 1 rfl) ?_
  refine lv_iconst (v := (-1)) hx hb d_D_crash_1 (by decide) ?_
  refine lv_icmp_lt (tgt := 12) hx hb d_D_crash_2 (by decide) (fun c_2 => ?_) (fun c_2 => ?_)
  · have hP9 : va_P (dC, dI) vwCl [(d0, .inr (3, [.ref pl, .ref tp, .ref wi, .ref pg, .ref te, .ref nw, .ref nx])), (pl, .inr (1, [.ref pb, .int dn, .int wr, .int pw])), (tp, .inr (2, [.ref tb, .int ln])), (nw, .inr (0, [.ref n1, .ref n2, .ref n3, .ref n4, .int ex, .int ch])), (n4, .inl (cI, 24, .inl no)), (wi, .inl (cI, 24, .inl wf))] _ := ey_P (is := [0, 1, 2, 3, 4, 5]) hP rfl
    have hD9 : va_D A [(d0, .inr (3, [.ref pl, .ref tp, .ref wi, .ref pg, .ref te, .ref nw, .ref nx])), (pl, .inr (1, [.ref pb, .int dn, .int wr, .int pw])), (tp, .inr (2, [.ref tb, .int ln])), (nw, .inr (0, [.ref n1, .ref n2, .ref n3, .ref n4, .int ex, .int ch])), (n4, .inl (cI, 24, .inl no)), (wi, .inl (cI, 24, .inl wf))] := hD.sub [0, 1, 2, 3, 4, 5] (by decide) rfl
    obtain ⟨sa9, hstr9⟩ := ex_str (k := 136) (t := "n is not NONE .. 1000") hG (by decide +kernel)
    exact vx_throwS (names := ["java/lang/RuntimeException", "java/lang/Exception"]) hx hb hl9 hown (by decide +kernel) (by decide +kernel) (hts _ ew_190) (hts _ ew_22) hstr9 (ex_hatA hG hts) ex_goodA hZ.1 hZ.2 hS (by rw [hml]; exact hl.1) d_D_crash_12 d_D_crash_15 d_D_crash_16 d_D_crash_18 d_D_crash_21 (fun x h9 => (hno x h9).elim) (Nat.le_of_ble_eq_true rfl) (Nat.le_of_ble_eq_true rfl) (Nat.le_of_ble_eq_true rfl) (Nat.le_of_ble_eq_true rfl) hlocks (fun t _ hz hk => ⟨(), trivial, ⟨Or.inl ⟨rfl, by simp only [ep_kcrash, ↓reduceIte, not_true_eq_false, not_false_eq_true, c_2]⟩, (ey_keptX hP9 hD9 hS hz hk).1⟩, (ey_keptX hP9 hD9 hS hz hk).2⟩) hS.2.2 (Nat.le_of_ble_eq_true rfl) (Nat.le_of_ble_eq_true rfl)
  · refine lv_iload_n hx hb d_D_crash_5 rfl (lv_at hl 1 rfl) ?_
    refine lv_sipush (v := 1000) hx hb d_D_crash_6 (by decide) ?_
    refine lv_icmp_le (tgt := 22) hx hb d_D_crash_9 (by decide) (fun c_9 => ?_) (fun c_9 => ?_)
    · refine lv_aload_n hx hb d_D_crash_22 rfl (lv_at hl 0 rfl) ?_
      refine va_get (D := (dC, dI)) (ci := 3) (v := .ref pl) (C := R_D) (T := T_D) (N := 7) hx hb hts in_D hown hK hP 0 rfl rfl 0 (by decide) (hts _ ew_109) (fun _ h9 => h9) rfl d_D_crash_23 ?_
      refine va_get (D := (dC, dI)) (ci := 1) (v := .int dn) (C := R_P) (T := T_P) (N := 4) hx hb hts in_P hown hK hP 1 rfl rfl 1 (by decide) (hts _ ew_48) (fun _ h9 => h9) rfl d_D_crash_26 ?_
      refine lv_if_eq (tgt := 42) hx hb d_D_crash_29 (by decide) (fun c_29 => ?_) (fun c_29 => ?_)
      · refine lv_aload_n hx hb d_D_crash_42 rfl (lv_at hl 0 rfl) ?_
        refine va_get (D := (dC, dI)) (ci := 3) (v := .ref pl) (C := R_D) (T := T_D) (N := 7) hx hb hts in_D hown hK hP 0 rfl rfl 0 (by decide) (hts _ ew_109) (fun _ h9 => h9) rfl d_D_crash_43 ?_
        refine lv_iload_n hx hb d_D_crash_46 rfl (lv_at hl 1 rfl) ?_
        refine ey_Vv (Wc := [(pl, .inr (1, [.ref pb, .int dn, .int wr, .int pw]))]) (wr := [(d0, .inr (3, [.ref pl, .ref tp, .ref wi, .ref pg, .ref te, .ref nw, .ref nx])), (tp, .inr (2, [.ref tb, .int ln])), (nw, .inr (0, [.ref n1, .ref n2, .ref n3, .ref n4, .int ex, .int ch])), (n4, .inl (cI, 24, .inl no)), (wi, .inl (cI, 24, .inl wf))]) (As := [.int x]) (rest := []) ⟨hx, hb, hml, hown, hts⟩ (c_pl_limit l dC dI cI cB cJ cZ pl pb dn wr pw x) (cwV 1 hts (ew_V ew_135 ew_136 ew_137 ew_15 g_P_limitPower) rfl rfl rfl (by decide +kernel) ⟨Nat.le_of_ble_eq_true rfl, Nat.le_of_ble_eq_true rfl⟩) hK hG hP hD hS hA [1] [0, 2, 3, 4, 5] rfl rfl (by decide) (by decide) (by decide) (ci := 1) (q0 := 0) rfl rfl rfl hl.1 rfl (Nat.le_of_ble_eq_true rfl) d_D_crash_47 ⟨Nat.le_of_ble_eq_true rfl, Nat.le_of_ble_eq_true rfl⟩ (fun u_2 H locs e_3 hP hD hS => ?_)
        have hP : va_P (dC, dI) vwCl [(d0, .inr (3, [.ref pl, .ref tp, .ref wi, .ref pg, .ref te, .ref nw, .ref nx])), (tp, .inr (2, [.ref tb, .int ln])), (nw, .inr (0, [.ref n1, .ref n2, .ref n3, .ref n4, .int ex, .int ch])), (n4, .inl (cI, 24, .inl no)), (wi, .inl (cI, 24, .inl wf)), (pl, .inr (1, [.ref pb, .int u_2, .int wr, .int x]))] H := hP
        have hD : va_D A [(d0, .inr (3, [.ref pl, .ref tp, .ref wi, .ref pg, .ref te, .ref nw, .ref nx])), (tp, .inr (2, [.ref tb, .int ln])), (nw, .inr (0, [.ref n1, .ref n2, .ref n3, .ref n4, .int ex, .int ch])), (n4, .inl (cI, 24, .inl no)), (wi, .inl (cI, 24, .inl wf)), (pl, .inr (1, [.ref pb, .int u_2, .int wr, .int x]))] := hD
        subst e_3
        refine lv_aload_n hx hb d_D_crash_50 rfl (lv_at hl 0 rfl) ?_
        refine va_get (D := (dC, dI)) (ci := 3) (v := .ref pl) (C := R_D) (T := T_D) (N := 7) hx hb hts in_D hown hK hP 0 rfl rfl 0 (by decide) (hts _ ew_109) (fun _ h9 => h9) rfl d_D_crash_51 ?_
        refine va_get (D := (dC, dI)) (ci := 1) (v := .int (ep_down x)) (C := R_P) (T := T_P) (N := 4) hx hb hts in_P hown hK hP 5 rfl rfl 1 (by decide) (hts _ ew_48) (fun _ h9 => h9) rfl d_D_crash_54 ?_
        refine lv_if_eq (tgt := 64) hx hb d_D_crash_57 (by decide) (fun c_57 => ?_) (fun c_57 => ?_)
        · refine vx_ret ?_
          exact ey_vret (W1 := fun (u : Int32 × Int32 × Int32 × Int32 × ep_F × ep_F) => [(d0, .inr (3, [.ref pl, .ref tp, .ref wi, .ref pg, .ref te, .ref nw, .ref nx])), (pl, .inr (1, [.ref pb, .int u.1, .int wr, .int x])), (tp, .inr (2, [.ref tb, .int u.2.1])), (nw, .inr (0, [.ref n1, .ref n2, .ref n3, .ref n4, .int u.2.2.1, .int u.2.2.2.1])), (n4, .inl (cI, 24, .inl u.2.2.2.2.1)), (wi, .inl (cI, 24, .inl u.2.2.2.2.2))]) hx hb hr hlocks hP hD hS ((ep_down x), ln, ex, ch, no, wf) [0, 5, 1, 2, 3, 4] rfl (by decide) (⟨by simp only [ep_kcrash, ↓reduceIte, not_true_eq_false, not_false_eq_true, c_2, c_9, c_29, c_57], by simp only [ep_crash, ↓reduceIte, not_true_eq_false, not_false_eq_true, c_57]⟩) d_D_crash_64 (Nat.le_of_ble_eq_true rfl) (Nat.le_of_ble_eq_true rfl)
        · refine lv_aload_n hx hb d_D_crash_60 rfl (lv_at hl 0 rfl) ?_
          refine ey_Vv (Wc := [(d0, .inr (3, [.ref pl, .ref tp, .ref wi, .ref pg, .ref te, .ref nw, .ref nx])), (tp, .inr (2, [.ref tb, .int ln])), (nw, .inr (0, [.ref n1, .ref n2, .ref n3, .ref n4, .int ex, .int ch])), (n4, .inl (cI, 24, .inl no)), (wi, .inl (cI, 24, .inl wf))]) (wr := [(pl, .inr (1, [.ref pb, .int (ep_down x), .int wr, .int x]))]) (As := []) (rest := []) ⟨hx, hb, hml, hown, hts⟩ (c_ed_forget l dC dI cI cB cJ cZ d0 pl tp wi pg te nw nx tb ln n1 n2 n3 n4 ex ch no wf) (cwV 0 hts (ew_V ew_351 ew_353 ew_4 ew_13 g_D_forget) rfl rfl rfl (by decide +kernel) ⟨Nat.le_of_ble_eq_true rfl, Nat.le_of_ble_eq_true rfl⟩) hK hG hP hD hS hA [0, 1, 2, 3, 4] [5] rfl rfl (by decide) (by decide) (by decide) (ci := 3) (q0 := 0) rfl rfl rfl hl.1 rfl (Nat.le_of_ble_eq_true rfl) d_D_crash_61 ⟨Nat.le_of_ble_eq_true rfl, Nat.le_of_ble_eq_true rfl⟩ (fun u_5 H locs e_6 hP hD hS => ?_)
          have hP : va_P (dC, dI) vwCl [(pl, .inr (1, [.ref pb, .int (ep_down x), .int wr, .int x])), (d0, .inr (3, [.ref pl, .ref tp, .ref wi, .ref pg, .ref te, .ref nw, .ref nx])), (tp, .inr (2, [.ref tb, .int 0])), (nw, .inr (0, [.ref n1, .ref n2, .ref n3, .ref n4, .int 0, .int 0])), (n4, .inl (cI, 24, .inl u_5.1)), (wi, .inl (cI, 24, .inl u_5.2))] H := hP
          have hD : va_D A [(pl, .inr (1, [.ref pb, .int (ep_down x), .int wr, .int x])), (d0, .inr (3, [.ref pl, .ref tp, .ref wi, .ref pg, .ref te, .ref nw, .ref nx])), (tp, .inr (2, [.ref tb, .int 0])), (nw, .inr (0, [.ref n1, .ref n2, .ref n3, .ref n4, .int 0, .int 0])), (n4, .inl (cI, 24, .inl u_5.1)), (wi, .inl (cI, 24, .inl u_5.2))] := hD
          subst e_6
          refine vx_ret ?_
          exact ey_vret (W1 := fun (u : Int32 × Int32 × Int32 × Int32 × ep_F × ep_F) => [(d0, .inr (3, [.ref pl, .ref tp, .ref wi, .ref pg, .ref te, .ref nw, .ref nx])), (pl, .inr (1, [.ref pb, .int u.1, .int wr, .int x])), (tp, .inr (2, [.ref tb, .int u.2.1])), (nw, .inr (0, [.ref n1, .ref n2, .ref n3, .ref n4, .int u.2.2.1, .int u.2.2.2.1])), (n4, .inl (cI, 24, .inl u.2.2.2.2.1)), (wi, .inl (cI, 24, .inl u.2.2.2.2.2))]) hx hb hr hlocks hP hD hS ((ep_down x), 0, 0, 0, (ep_fill 24 0 no, ep_fill 24 0 wf).1, (ep_fill 24 0 no, ep_fill 24 0 wf).2) [1, 0, 2, 3, 4, 5] rfl (by decide) (⟨by simp only [ep_kcrash, ↓reduceIte, not_true_eq_false, not_false_eq_true, c_2, c_9, c_29, c_57], by simp only [ep_crash, ↓reduceIte, not_true_eq_false, not_false_eq_true, c_57]⟩) d_D_crash_64 (Nat.le_of_ble_eq_true rfl) (Nat.le_of_ble_eq_true rfl)
      · have hP9 : va_P (dC, dI) vwCl [(d0, .inr (3, [.ref pl, .ref tp, .ref wi, .ref pg, .ref te, .ref nw, .ref nx])), (pl, .inr (1, [.ref pb, .int dn, .int wr, .int pw])), (tp, .inr (2, [.ref tb, .int ln])), (nw, .inr (0, [.ref n1, .ref n2, .ref n3, .ref n4, .int ex, .int ch])), (n4, .inl (cI, 24, .inl no)), (wi, .inl (cI, 24, .inl wf))] _ := ey_P (is := [0, 1, 2, 3, 4, 5]) hP rfl
        have hD9 : va_D A [(d0, .inr (3, [.ref pl, .ref tp, .ref wi, .ref pg, .ref te, .ref nw, .ref nx])), (pl, .inr (1, [.ref pb, .int dn, .int wr, .int pw])), (tp, .inr (2, [.ref tb, .int ln])), (nw, .inr (0, [.ref n1, .ref n2, .ref n3, .ref n4, .int ex, .int ch])), (n4, .inl (cI, 24, .inl no)), (wi, .inl (cI, 24, .inl wf))] := hD.sub [0, 1, 2, 3, 4, 5] (by decide) rfl
        obtain ⟨sa9, hstr9⟩ := ex_str (k := 86) (t := "the store is down") hG (by decide +kernel)
        exact vx_throwS (names := ["java/lang/RuntimeException", "java/lang/Exception"]) hx hb hl9 hown (by decide +kernel) (by decide +kernel) (hts _ ew_260) (hts _ ew_23) hstr9 (ex_hatS hG hts) ex_goodS hZ.1 hZ.2 hS (by rw [hml]; exact hl.1) d_D_crash_32 d_D_crash_35 d_D_crash_36 d_D_crash_38 d_D_crash_41 (fun x h9 => (hno x h9).elim) (Nat.le_of_ble_eq_true rfl) (Nat.le_of_ble_eq_true rfl) (Nat.le_of_ble_eq_true rfl) (Nat.le_of_ble_eq_true rfl) hlocks (fun t _ hz hk => ⟨(), trivial, ⟨Or.inr ⟨rfl, by simp only [ep_kcrash, ↓reduceIte, not_true_eq_false, not_false_eq_true, c_2, c_9, c_29]⟩, (ey_keptX hP9 hD9 hS hz hk).1⟩, (ey_keptX hP9 hD9 hS hz hk).2⟩) hS.2.2 (Nat.le_of_ble_eq_true rfl) (Nat.le_of_ble_eq_true rfl)
    · have hP9 : va_P (dC, dI) vwCl [(d0, .inr (3, [.ref pl, .ref tp, .ref wi, .ref pg, .ref te, .ref nw, .ref nx])), (pl, .inr (1, [.ref pb, .int dn, .int wr, .int pw])), (tp, .inr (2, [.ref tb, .int ln])), (nw, .inr (0, [.ref n1, .ref n2, .ref n3, .ref n4, .int ex, .int ch])), (n4, .inl (cI, 24, .inl no)), (wi, .inl (cI, 24, .inl wf))] _ := ey_P (is := [0, 1, 2, 3, 4, 5]) hP rfl
      have hD9 : va_D A [(d0, .inr (3, [.ref pl, .ref tp, .ref wi, .ref pg, .ref te, .ref nw, .ref nx])), (pl, .inr (1, [.ref pb, .int dn, .int wr, .int pw])), (tp, .inr (2, [.ref tb, .int ln])), (nw, .inr (0, [.ref n1, .ref n2, .ref n3, .ref n4, .int ex, .int ch])), (n4, .inl (cI, 24, .inl no)), (wi, .inl (cI, 24, .inl wf))] := hD.sub [0, 1, 2, 3, 4, 5] (by decide) rfl
      obtain ⟨sa9, hstr9⟩ := ex_str (k := 136) (t := "n is not NONE .. 1000") hG (by decide +kernel)
      exact vx_throwS (names := ["java/lang/RuntimeException", "java/lang/Exception"]) hx hb hl9 hown (by decide +kernel) (by decide +kernel) (hts _ ew_190) (hts _ ew_22) hstr9 (ex_hatA hG hts) ex_goodA hZ.1 hZ.2 hS (by rw [hml]; exact hl.1) d_D_crash_12 d_D_crash_15 d_D_crash_16 d_D_crash_18 d_D_crash_21 (fun x h9 => (hno x h9).elim) (Nat.le_of_ble_eq_true rfl) (Nat.le_of_ble_eq_true rfl) (Nat.le_of_ble_eq_true rfl) (Nat.le_of_ble_eq_true rfl) hlocks (fun t _ hz hk => ⟨(), trivial, ⟨Or.inl ⟨rfl, by simp only [ep_kcrash, ↓reduceIte, not_true_eq_false, not_false_eq_true, c_2, c_9]⟩, (ey_keptX hP9 hD9 hS hz hk).1⟩, (ey_keptX hP9 hD9 hS hz hk).2⟩) hS.2.2 (Nat.le_of_ble_eq_true rfl) (Nat.le_of_ble_eq_true rfl)
set_option maxHeartbeats 4000000 in
set_option maxRecDepth 100000 in
theorem c_ed_byte (l : Launch) (dC : Nat → ClassId) (dI : Nat → Nat → Nat) (cI cB cJ cZ : ClassId) (hl9 : l.stackTraces = false) (d0 pl tp wi pg te nw nx : Nat) (pb : Nat) (dn wr pw : Int32) (nb : Nat) (pf : ep_F) (n1 n2 n3 n4 : Nat) (ex ch : Int32) (fi si : ep_F) (x y : Int32) (hnb : nb < 2 ^ 30) : ey_Xi l y_D_byteAt w_D_byteAt { frames := 6, cells := 1, slots := 6, locals := 90 } (dC, dI) vwCl (ey_kt cI cB cJ cZ) [.ref d0, .int x, .int y] [(d0, .inr (3, [.ref pl, .ref tp, .ref wi, .ref pg, .ref te, .ref nw, .ref nx])), (pl, .inr (1, [.ref pb, .int dn, .int wr, .int pw])), (pb, .inl (cB, nb, .inl pf)), (nw, .inr (0, [.ref n1, .ref n2, .ref n3, .ref n4, .int ex, .int ch])), (n2, .inl (cI, 200, .inl fi)), (n3, .inl (cI, 200, .inl si))] (fun (r : Int32) (u : Unit) => ep_kbyte ex x y (si x.toNatClampNeg) = 0 ∧ r = ep_read nb pf (fi x.toNatClampNeg * 4096 + y)) (fun (u : Unit) => [(d0, .inr (3, [.ref pl, .ref tp, .ref wi, .ref pg, .ref te, .ref nw, .ref nx])), (pl, .inr (1, [.ref pb, .int dn, .int wr, .int pw])), (pb, .inl (cB, nb, .inl pf)), (nw, .inr (0, [.ref n1, .ref n2, .ref n3, .ref n4, .int ex, .int ch])), (n2, .inl (cI, 200, .inl fi)), (n3, .inl (cI, 200, .inl si))]) (fun E => (E = "java/lang/IllegalArgumentException" ∧ ep_kbyte ex x y (si x.toNatClampNeg) = 1) ∨ (E = "java/lang/IllegalStateException" ∧ ep_kbyte ex x y (si x.toNatClampNeg) = 2)) 1 6 := by
  intro sz
  refine vx_ofW (cc := b_D_byteAt) (maxL := 3) (ret := (some .int)) (by decide) rfl ?_
  intro p e s m args below meth c s₁ B hml hno hv
  obtain ⟨rfl, hZ, hsz, hP, hK, hG, hD0⟩ := hv
  have hx := B.exec
  have hb := B.bytes
  have hr := B.returns
  have hts := fun (w : Cond) (h : w ∈ ew_T) => atoms_spec (ws := w_D_byteAt) B.pre w (List.mem_cons_of_mem _ h)
  have hown : s.vm.findClass R_D = some m.cls := findClass_of_methodNamed B.named
  have hlocks := B.notSynchronized
  subst hsz
  have hD := hD0.self (sz := s.heap.size)
  generalize hAe : va_A [(d0, .inr (3, [.ref pl, .ref tp, .ref wi, .ref pg, .ref te, .ref nw, .ref nx])), (pl, .inr (1, [.ref pb, .int dn, .int wr, .int pw])), (pb, .inl (cB, nb, .inl pf)), (nw, .inr (0, [.ref n1, .ref n2, .ref n3, .ref n4, .int ex, .int ch])), (n2, .inl (cI, 200, .inl fi)), (n3, .inl (cI, 200, .inl si))] s.heap.size = A at hD hZ ⊢
  have hA : ∀ q : Nat, s.heap.size ≤ q → A q := fun q h => by rw [← hAe]; exact Or.inr h
  have hS : va_S A s.heap s.heap [] := va_S.rf
  have hP : va_P (dC, dI) vwCl [(d0, .inr (3, [.ref pl, .ref tp, .ref wi, .ref pg, .ref te, .ref nw, .ref nx])), (pl, .inr (1, [.ref pb, .int dn, .int wr, .int pw])), (pb, .inl (cB, nb, .inl pf)), (nw, .inr (0, [.ref n1, .ref n2, .ref n3, .ref n4, .int ex, .int ch])), (n2, .inl (cI, 200, .inl fi)), (n3, .inl (cI, 200, .inl si))] s.heap := hP
  have hl := lv_entry ([.ref d0, .int x, .int y]) (n := 3) (Nat.le_of_ble_eq_true rfl)
  rw [lg_entry_eq]
  generalize (lg_sl ([.ref d0, .int x, .int y]) ++ List.replicate (3 - (lg_sl ([.ref d0, .int x, .int y])).length) Slot.unset).toArray = ls at hl ⊢
  have hl : lv_has ls 3 [(0, .ref d0), (1, .int x), (2, .int y)] := hl
  refine lv_aload_n hx hb d_D_byteAt_0 rfl (lv_at hl 0 rfl) ?_
  refine va_get (D := (dC, dI)) (ci := 3) (v := .ref nw) (C := R_D) (T := T_D) (N := 7) hx hb hts in_D hown hK hP 0 rfl rfl 5 (by decide) (hts _ ew_114) (fun _ h9 => h9) rfl d_D_byteAt_1 ?_
  refine lv_iload_n hx hb d_D_byteAt_4 rfl (lv_at hl 1 rfl) ?_
  refine ey_Vi (Wc := [(nw, .inr (0, [.ref n1, .ref n2, .ref n3, .ref n4, .int ex, .int ch]))]) (wr := [(d0, .inr (3, [.ref pl, .ref tp, .ref wi, .ref pg, .ref te, .ref nw, .ref nx])), (pl, .inr (1, [.ref pb, .int dn, .int wr, .int pw])), (pb, .inl (cB, nb, .inl pf)), (n2, .inl (cI, 200, .inl fi)), (n3, .inl (cI, 200, .inl si))]) (As := [.int x]) (rest := []) ⟨hx, hb, hml, hown, hts⟩ (c_mf_holds l dC dI cI cB cJ cZ nw n1 n2 n3 n4 ex ch x) (cwV 1 hts (ew_V ew_371 ew_372 ew_373 ew_17 g_M_holds) rfl rfl rfl (by decide +kernel) ⟨Nat.le_of_ble_eq_true rfl, Nat.le_of_ble_eq_true rfl⟩) hK hG hP hD hS hA [3] [0, 1, 2, 4, 5] rfl rfl (by decide) (by decide) (by decide) (ci := 0) (q0 := 0) rfl rfl rfl hl.1 rfl (Nat.le_of_ble_eq_true rfl) d_D_byteAt_5 ⟨Nat.le_of_ble_eq_true rfl, Nat.le_of_ble_eq_true rfl⟩ (fun r_1 u_2 H locs e_3 hP hD hS => ?_)
  have hP : va_P (dC, dI) vwCl [(d0, .inr (3, [.ref pl, .ref tp, .ref wi, .ref pg, .ref te, .ref nw, .ref nx])), (pl, .inr (1, [.ref pb, .int dn, .int wr, .int pw])), (pb, .inl (cB, nb, .inl pf)), (n2, .inl (cI, 200, .inl fi)), (n3, .inl (cI, 200, .inl si)), (nw, .inr (0, [.ref n1, .ref n2, .ref n3, .ref n4, .int ex, .int ch]))] H := hP
  have hD : va_D A [(d0, .inr (3, [.ref pl, .ref tp, .ref wi, .ref pg, .ref te, .ref nw, .ref nx])), (pl, .inr (1, [.ref pb, .int dn, .int wr, .int pw])), (pb, .inl (cB, nb, .inl pf)), (n2, .inl (cI, 200, .inl fi)), (n3, .inl (cI, 200, .inl si)), (nw, .inr (0, [.ref n1, .ref n2, .ref n3, .ref n4, .int ex, .int ch]))] := hD
  subst e_3
  refine lv_if_ne (tgt := 21) hx hb d_D_byteAt_8 (by decide) (fun c_8 => ?_) (fun c_8 => ?_)
  · refine lv_iload_n hx hb d_D_byteAt_21 rfl (lv_at hl 2 rfl) ?_
    refine lv_if_lt (tgt := 38) hx hb d_D_byteAt_22 (by decide) (fun c_22 => ?_) (fun c_22 => ?_)
    · have hP9 : va_P (dC, dI) vwCl [(d0, .inr (3, [.ref pl, .ref tp, .ref wi, .ref pg, .ref te, .ref nw, .ref nx])), (pl, .inr (1, [.ref pb, .int dn, .int wr, .int pw])), (pb, .inl (cB, nb, .inl pf)), (nw, .inr (0, [.ref n1, .ref n2, .ref n3, .ref n4, .int ex, .int ch])), (n2, .inl (cI, 200, .inl fi)), (n3, .inl (cI, 200, .inl si))] _ := ey_P (is := [0, 1, 2, 5, 3, 4]) hP rfl
      have hD9 : va_D A [(d0, .inr (3, [.ref pl, .ref tp, .ref wi, .ref pg, .ref te, .ref nw, .ref nx])), (pl, .inr (1, [.ref pb, .int dn, .int wr, .int pw])), (pb, .inl (cB, nb, .inl pf)), (nw, .inr (0, [.ref n1, .ref n2, .ref n3, .ref n4, .int ex, .int ch])), (n2, .inl (cI, 200, .inl fi)), (n3, .inl (cI, 200, .inl si))] := hD.sub [0, 1, 2, 5, 3, 4] (by decide) rfl
      obtain ⟨sa9, hstr9⟩ := ex_str (k := 131) (t := "there is no such byte") hG (by decide +kernel)
      exact vx_throwS (names := ["java/lang/RuntimeException", "java/lang/Exception"]) hx hb hl9 hown (by decide +kernel) (by decide +kernel) (hts _ ew_190) (hts _ ew_22) hstr9 (ex_hatA hG hts) ex_goodA hZ.1 hZ.2 hS (by rw [hml]; exact hl.1) d_D_byteAt_38 d_D_byteAt_41 d_D_byteAt_42 d_D_byteAt_44 d_D_byteAt_47 (fun x h9 => (hno x h9).elim) (Nat.le_of_ble_eq_true rfl) (Nat.le_of_ble_eq_true rfl) (Nat.le_of_ble_eq_true rfl) (Nat.le_of_ble_eq_true rfl) hlocks (fun t _ hz hk => ⟨(), trivial, ⟨Or.inl ⟨rfl, by simp only [ep_kbyte, ↓reduceIte, not_true_eq_false, not_false_eq_true, c_8, c_22]⟩, (ey_keptX hP9 hD9 hS hz hk).1⟩, (ey_keptX hP9 hD9 hS hz hk).2⟩) hS.2.2 (Nat.le_of_ble_eq_true rfl) (Nat.le_of_ble_eq_true rfl)
    · refine lv_iload_n hx hb d_D_byteAt_25 rfl (lv_at hl 2 rfl) ?_
      refine lv_aload_n hx hb d_D_byteAt_26 rfl (lv_at hl 0 rfl) ?_
      refine va_get (D := (dC, dI)) (ci := 3) (v := .ref nw) (C := R_D) (T := T_D) (N := 7) hx hb hts in_D hown hK hP 0 rfl rfl 5 (by decide) (hts _ ew_114) (fun _ h9 => h9) rfl d_D_byteAt_27 ?_
      refine va_get (D := (dC, dI)) (ci := 0) (v := .ref n3) (C := R_M) (T := T_M) (N := 6) hx hb hts in_M hown hK hP 5 rfl rfl 2 (by decide) (hts _ ew_88) (fun _ h9 => h9) rfl d_D_byteAt_30 ?_
      refine lv_iload_n hx hb d_D_byteAt_33 rfl (lv_at hl 1 rfl) ?_
      refine va_iald hx hb hK hP 4 0 rfl rfl (ey_holds c_8) d_D_byteAt_34 ?_
      refine lv_icmp_lt (tgt := 48) hx hb d_D_byteAt_35 (by decide) (fun c_35 => ?_) (fun c_35 => ?_)
      · refine lv_aload_n hx hb d_D_byteAt_48 rfl (lv_at hl 0 rfl) ?_
        refine va_get (D := (dC, dI)) (ci := 3) (v := .ref pl) (C := R_D) (T := T_D) (N := 7) hx hb hts in_D hown hK hP 0 rfl rfl 0 (by decide) (hts _ ew_109) (fun _ h9 => h9) rfl d_D_byteAt_49 ?_
        refine lv_aload_n hx hb d_D_byteAt_52 rfl (lv_at hl 0 rfl) ?_
        refine va_get (D := (dC, dI)) (ci := 3) (v := .ref nw) (C := R_D) (T := T_D) (N := 7) hx hb hts in_D hown hK hP 0 rfl rfl 5 (by decide) (hts _ ew_114) (fun _ h9 => h9) rfl d_D_byteAt_53 ?_
        refine va_get (D := (dC, dI)) (ci := 0) (v := .ref n2) (C := R_M) (T := T_M) (N := 6) hx hb hts in_M hown hK hP 5 rfl rfl 1 (by decide) (hts _ ew_86) (fun _ h9 => h9) rfl d_D_byteAt_56 ?_
        refine lv_iload_n hx hb d_D_byteAt_59 rfl (lv_at hl 1 rfl) ?_
        refine va_iald hx hb hK hP 3 0 rfl rfl (ey_holds c_8) d_D_byteAt_60 ?_
        refine lv_sipush (v := 4096) hx hb d_D_byteAt_61 (by decide) ?_
        refine lv_imul hx hb d_D_byteAt_64 ?_
        refine lv_iload_n hx hb d_D_byteAt_65 rfl (lv_at hl 2 rfl) ?_
        refine lv_iadd hx hb d_D_byteAt_66 ?_
        refine ey_Vi (Wc := [(pl, .inr (1, [.ref pb, .int dn, .int wr, .int pw])), (pb, .inl (cB, nb, .inl pf))]) (wr := [(d0, .inr (3, [.ref pl, .ref tp, .ref wi, .ref pg, .ref te, .ref nw, .ref nx])), (n2, .inl (cI, 200, .inl fi)), (n3, .inl (cI, 200, .inl si)), (nw, .inr (0, [.ref n1, .ref n2, .ref n3, .ref n4, .int ex, .int ch]))]) (As := [.int (((fi x.toNatClampNeg) * 4096) + y)]) (rest := []) ⟨hx, hb, hml, hown, hts⟩ (c_pl_read l dC dI cI cB cJ cZ pl pb dn wr pw nb pf (((fi x.toNatClampNeg) * 4096) + y) (by omega)) (cwV 1 hts (ew_V ew_385 ew_155 ew_156 ew_15 g_P_read) rfl rfl rfl (by decide +kernel) ⟨Nat.le_of_ble_eq_true rfl, Nat.le_of_ble_eq_true rfl⟩) hK hG hP hD hS hA [1, 2] [0, 3, 4, 5] rfl rfl (by decide) (by decide) (by decide) (ci := 1) (q0 := 0) rfl rfl rfl hl.1 rfl (Nat.le_of_ble_eq_true rfl) d_D_byteAt_67 ⟨Nat.le_of_ble_eq_true rfl, Nat.le_of_ble_eq_true rfl⟩ (fun r_4 u_5 H locs e_6 hP hD hS => ?_)
        have hP : va_P (dC, dI) vwCl [(d0, .inr (3, [.ref pl, .ref tp, .ref wi, .ref pg, .ref te, .ref nw, .ref nx])), (n2, .inl (cI, 200, .inl fi)), (n3, .inl (cI, 200, .inl si)), (nw, .inr (0, [.ref n1, .ref n2, .ref n3, .ref n4, .int ex, .int ch])), (pl, .inr (1, [.ref pb, .int dn, .int wr, .int pw])), (pb, .inl (cB, nb, .inl pf))] H := hP
        have hD : va_D A [(d0, .inr (3, [.ref pl, .ref tp, .ref wi, .ref pg, .ref te, .ref nw, .ref nx])), (n2, .inl (cI, 200, .inl fi)), (n3, .inl (cI, 200, .inl si)), (nw, .inr (0, [.ref n1, .ref n2, .ref n3, .ref n4, .int ex, .int ch])), (pl, .inr (1, [.ref pb, .int dn, .int wr, .int pw])), (pb, .inl (cB, nb, .inl pf))] := hD
        subst e_6
        refine vx_ret ?_
        exact ey_iret (W1 := fun (u : Unit) => [(d0, .inr (3, [.ref pl, .ref tp, .ref wi, .ref pg, .ref te, .ref nw, .ref nx])), (pl, .inr (1, [.ref pb, .int dn, .int wr, .int pw])), (pb, .inl (cB, nb, .inl pf)), (nw, .inr (0, [.ref n1, .ref n2, .ref n3, .ref n4, .int ex, .int ch])), (n2, .inl (cI, 200, .inl fi)), (n3, .inl (cI, 200, .inl si))]) hx hb hr hlocks hP hD hS () [0, 4, 5, 3, 1, 2] rfl (by decide) (⟨by simp only [ep_kbyte, ↓reduceIte, not_true_eq_false, not_false_eq_true, c_8, c_22, c_35], rfl⟩) d_D_byteAt_70 (Nat.le_of_ble_eq_true rfl) (Nat.le_of_ble_eq_true rfl)
      · have hP9 : va_P (dC, dI) vwCl [(d0, .inr (3, [.ref pl, .ref tp, .ref wi, .ref pg, .ref te, .ref nw, .ref nx])), (pl, .inr (1, [.ref pb, .int dn, .int wr, .int pw])), (pb, .inl (cB, nb, .inl pf)), (nw, .inr (0, [.ref n1, .ref n2, .ref n3, .ref n4, .int ex, .int ch])), (n2, .inl (cI, 200, .inl fi)), (n3, .inl (cI, 200, .inl si))] _ := ey_P (is := [0, 1, 2, 5, 3, 4]) hP rfl
        have hD9 : va_D A [(d0, .inr (3, [.ref pl, .ref tp, .ref wi, .ref pg, .ref te, .ref nw, .ref nx])), (pl, .inr (1, [.ref pb, .int dn, .int wr, .int pw])), (pb, .inl (cB, nb, .inl pf)), (nw, .inr (0, [.ref n1, .ref n2, .ref n3, .ref n4, .int ex, .int ch])), (n2, .inl (cI, 200, .inl fi)), (n3, .inl (cI, 200, .inl si))] := hD.sub [0, 1, 2, 5, 3, 4] (by decide) rfl
        obtain ⟨sa9, hstr9⟩ := ex_str (k := 131) (t := "there is no such byte") hG (by decide +kernel)
        exact vx_throwS (names := ["java/lang/RuntimeException", "java/lang/Exception"]) hx hb hl9 hown (by decide +kernel) (by decide +kernel) (hts _ ew_190) (hts _ ew_22) hstr9 (ex_hatA hG hts) ex_goodA hZ.1 hZ.2 hS (by rw [hml]; exact hl.1) d_D_byteAt_38 d_D_byteAt_41 d_D_byteAt_42 d_D_byteAt_44 d_D_byteAt_47 (fun x h9 => (hno x h9).elim) (Nat.le_of_ble_eq_true rfl) (Nat.le_of_ble_eq_true rfl) (Nat.le_of_ble_eq_true rfl) (Nat.le_of_ble_eq_true rfl) hlocks (fun t _ hz hk => ⟨(), trivial, ⟨Or.inl ⟨rfl, by simp only [ep_kbyte, ↓reduceIte, not_true_eq_false, not_false_eq_true, c_8, c_22, c_35]⟩, (ey_keptX hP9 hD9 hS hz hk).1⟩, (ey_keptX hP9 hD9 hS hz hk).2⟩) hS.2.2 (Nat.le_of_ble_eq_true rfl) (Nat.le_of_ble_eq_true rfl)
  · have hP9 : va_P (dC, dI) vwCl [(d0, .inr (3, [.ref pl, .ref tp, .ref wi, .ref pg, .ref te, .ref nw, .ref nx])), (pl, .inr (1, [.ref pb, .int dn, .int wr, .int pw])), (pb, .inl (cB, nb, .inl pf)), (nw, .inr (0, [.ref n1, .ref n2, .ref n3, .ref n4, .int ex, .int ch])), (n2, .inl (cI, 200, .inl fi)), (n3, .inl (cI, 200, .inl si))] _ := ey_P (is := [0, 1, 2, 5, 3, 4]) hP rfl
    have hD9 : va_D A [(d0, .inr (3, [.ref pl, .ref tp, .ref wi, .ref pg, .ref te, .ref nw, .ref nx])), (pl, .inr (1, [.ref pb, .int dn, .int wr, .int pw])), (pb, .inl (cB, nb, .inl pf)), (nw, .inr (0, [.ref n1, .ref n2, .ref n3, .ref n4, .int ex, .int ch])), (n2, .inl (cI, 200, .inl fi)), (n3, .inl (cI, 200, .inl si))] := hD.sub [0, 1, 2, 5, 3, 4] (by decide) rfl
    obtain ⟨sa9, hstr9⟩ := ex_str (k := 118) (t := "there is no such extent") hG (by decide +kernel)
    exact vx_throwS (names := ["java/lang/RuntimeException", "java/lang/Exception"]) hx hb hl9 hown (by decide +kernel) (by decide +kernel) (hts _ ew_190) (hts _ ew_22) hstr9 (ex_hatA hG hts) ex_goodA hZ.1 hZ.2 hS (by rw [hml]; exact hl.1) d_D_byteAt_11 d_D_byteAt_14 d_D_byteAt_15 d_D_byteAt_17 d_D_byteAt_20 (fun x h9 => (hno x h9).elim) (Nat.le_of_ble_eq_true rfl) (Nat.le_of_ble_eq_true rfl) (Nat.le_of_ble_eq_true rfl) (Nat.le_of_ble_eq_true rfl) hlocks (fun t _ hz hk => ⟨(), trivial, ⟨Or.inl ⟨rfl, by simp only [ep_kbyte, ↓reduceIte, not_true_eq_false, not_false_eq_true, c_8]⟩, (ey_keptX hP9 hD9 hS hz hk).1⟩, (ey_keptX hP9 hD9 hS hz hk).2⟩) hS.2.2 (Nat.le_of_ble_eq_true rfl) (Nat.le_of_ble_eq_true rfl)
set_option maxHeartbeats 4000000 in
set_option maxRecDepth 100000 in
theorem c_ed_extent (l : Launch) (dC : Nat → ClassId) (dI : Nat → Nat → Nat) (cI cB cJ cZ : ClassId) (hl9 : l.stackTraces = false) (d0 pl tp wi pg te nw nx : Nat) (n1 n2 n3 n4 : Nat) (ex ch : Int32) (la fi si : ep_F) (x y : Int32) : ey_Xi l y_D_extent w_D_extent { frames := 6, cells := 1, slots := 6, locals := 90 } (dC, dI) vwCl (ey_kt cI cB cJ cZ) [.ref d0, .int x, .int y] [(d0, .inr (3, [.ref pl, .ref tp, .ref wi, .ref pg, .ref te, .ref nw, .ref nx])), (nw, .inr (0, [.ref n1, .ref n2, .ref n3, .ref n4, .int ex, .int ch])), (n1, .inl (cI, 200, .inl la)), (n2, .inl (cI, 200, .inl fi)), (n3, .inl (cI, 200, .inl si))] (fun (r : Int32) (u : Unit) => ep_kext ex x y = 0 ∧ r = ep_ext la fi si x y) (fun (u : Unit) => [(d0, .inr (3, [.ref pl, .ref tp, .ref wi, .ref pg, .ref te, .ref nw, .ref nx])), (nw, .inr (0, [.ref n1, .ref n2, .ref n3, .ref n4, .int ex, .int ch])), (n1, .inl (cI, 200, .inl la)), (n2, .inl (cI, 200, .inl fi)), (n3, .inl (cI, 200, .inl si))]) (fun E => (E = "java/lang/IllegalArgumentException" ∧ ep_kext ex x y = 1) ∨ (E = "java/lang/IllegalStateException" ∧ ep_kext ex x y = 2)) 1 6 := by
  intro sz
  refine vx_ofW (cc := b_D_extent) (maxL := 3) (ret := (some .int)) (by decide) rfl ?_
  intro p e s m args below meth c s₁ B hml hno hv
  obtain ⟨rfl, hZ, hsz, hP, hK, hG, hD0⟩ := hv
  have hx := B.exec
  have hb := B.bytes
  have hr := B.returns
  have hts := fun (w : Cond) (h : w ∈ ew_T) => atoms_spec (ws := w_D_extent) B.pre w (List.mem_cons_of_mem _ h)
  have hown : s.vm.findClass R_D = some m.cls := findClass_of_methodNamed B.named
  have hlocks := B.notSynchronized
  subst hsz
  have hD := hD0.self (sz := s.heap.size)
  generalize hAe : va_A [(d0, .inr (3, [.ref pl, .ref tp, .ref wi, .ref pg, .ref te, .ref nw, .ref nx])), (nw, .inr (0, [.ref n1, .ref n2, .ref n3, .ref n4, .int ex, .int ch])), (n1, .inl (cI, 200, .inl la)), (n2, .inl (cI, 200, .inl fi)), (n3, .inl (cI, 200, .inl si))] s.heap.size = A at hD hZ ⊢
  have hA : ∀ q : Nat, s.heap.size ≤ q → A q := fun q h => by rw [← hAe]; exact Or.inr h
  have hS : va_S A s.heap s.heap [] := va_S.rf
  have hP : va_P (dC, dI) vwCl [(d0, .inr (3, [.ref pl, .ref tp, .ref wi, .ref pg, .ref te, .ref nw, .ref nx])), (nw, .inr (0, [.ref n1, .ref n2, .ref n3, .ref n4, .int ex, .int ch])), (n1, .inl (cI, 200, .inl la)), (n2, .inl (cI, 200, .inl fi)), (n3, .inl (cI, 200, .inl si))] s.heap := hP
  have hl := lv_entry ([.ref d0, .int x, .int y]) (n := 3) (Nat.le_of_ble_eq_true rfl)
  rw [lg_entry_eq]
  generalize (lg_sl ([.ref d0, .int x, .int y]) ++ List.replicate (3 - (lg_sl ([.ref d0, .int x, .int y])).length) Slot.unset).toArray = ls at hl ⊢
  have hl : lv_has ls 3 [(0, .ref d0), (1, .int x), (2, .int y)] := hl
  refine lv_aload_n hx hb d_D_extent_0 rfl (lv_at hl 0 rfl) ?_
  refine va_get (D := (dC, dI)) (ci := 3) (v := .ref nw) (C := R_D) (T := T_D) (N := 7) hx hb hts in_D hown hK hP 0 rfl rfl 5 (by decide) (hts _ ew_114) (fun _ h9 => h9) rfl d_D_extent_1 ?_
  refine lv_iload_n hx hb d_D_extent_4 rfl (lv_at hl 1 rfl) ?_
  refine ey_Vi (Wc := [(nw, .inr (0, [.ref n1, .ref n2, .ref n3, .ref n4, .int ex, .int ch]))]) (wr := [(d0, .inr (3, [.ref pl, .ref tp, .ref wi, .ref pg, .ref te, .ref nw, .ref nx])), (n1, .inl (cI, 200, .inl la)), (n2, .inl (cI, 200, .inl fi)), (n3, .inl (cI, 200, .inl si))]) (As := [.int x]) (rest := []) ⟨hx, hb, hml, hown, hts⟩ (c_mf_holds l dC dI cI cB cJ cZ nw n1 n2 n3 n4 ex ch x) (cwV 1 hts (ew_V ew_371 ew_372 ew_373 ew_17 g_M_holds) rfl rfl rfl (by decide +kernel) ⟨Nat.le_of_ble_eq_true rfl, Nat.le_of_ble_eq_true rfl⟩) hK hG hP hD hS hA [1] [0, 2, 3, 4] rfl rfl (by decide) (by decide) (by decide) (ci := 0) (q0 := 0) rfl rfl rfl hl.1 rfl (Nat.le_of_ble_eq_true rfl) d_D_extent_5 ⟨Nat.le_of_ble_eq_true rfl, Nat.le_of_ble_eq_true rfl⟩ (fun r_1 u_2 H locs e_3 hP hD hS => ?_)
  have hP : va_P (dC, dI) vwCl [(d0, .inr (3, [.ref pl, .ref tp, .ref wi, .ref pg, .ref te, .ref nw, .ref nx])), (n1, .inl (cI, 200, .inl la)), (n2, .inl (cI, 200, .inl fi)), (n3, .inl (cI, 200, .inl si)), (nw, .inr (0, [.ref n1, .ref n2, .ref n3, .ref n4, .int ex, .int ch]))] H := hP
  have hD : va_D A [(d0, .inr (3, [.ref pl, .ref tp, .ref wi, .ref pg, .ref te, .ref nw, .ref nx])), (n1, .inl (cI, 200, .inl la)), (n2, .inl (cI, 200, .inl fi)), (n3, .inl (cI, 200, .inl si)), (nw, .inr (0, [.ref n1, .ref n2, .ref n3, .ref n4, .int ex, .int ch]))] := hD
  subst e_3
  refine lv_if_ne (tgt := 21) hx hb d_D_extent_8 (by decide) (fun c_8 => ?_) (fun c_8 => ?_)
  · refine lv_iload_n hx hb d_D_extent_21 rfl (lv_at hl 2 rfl) ?_
    by_cases s_22_0 : y = 0
    · refine lv_tableIn (off := 30) (tgt := 52) hx hb d_D_extent_22 (by rw [s_22_0]; decide) (by rw [s_22_0]; decide) (by rw [s_22_0]; decide) (by decide) ?_
      refine lv_aload_n hx hb d_D_extent_52 rfl (lv_at hl 0 rfl) ?_
      refine va_get (D := (dC, dI)) (ci := 3) (v := .ref nw) (C := R_D) (T := T_D) (N := 7) hx hb hts in_D hown hK hP 0 rfl rfl 5 (by decide) (hts _ ew_114) (fun _ h9 => h9) rfl d_D_extent_53 ?_
      refine va_get (D := (dC, dI)) (ci := 0) (v := .ref n1) (C := R_M) (T := T_M) (N := 6) hx hb hts in_M hown hK hP 4 rfl rfl 0 (by decide) (hts _ ew_84) (fun _ h9 => h9) rfl d_D_extent_56 ?_
      refine lv_iload_n hx hb d_D_extent_59 rfl (lv_at hl 1 rfl) ?_
      refine va_iald hx hb hK hP 1 0 rfl rfl (ey_holds c_8) d_D_extent_60 ?_
      refine vx_ret ?_
      exact ey_iret (W1 := fun (u : Unit) => [(d0, .inr (3, [.ref pl, .ref tp, .ref wi, .ref pg, .ref te, .ref nw, .ref nx])), (nw, .inr (0, [.ref n1, .ref n2, .ref n3, .ref n4, .int ex, .int ch])), (n1, .inl (cI, 200, .inl la)), (n2, .inl (cI, 200, .inl fi)), (n3, .inl (cI, 200, .inl si))]) hx hb hr hlocks hP hD hS () [0, 4, 1, 2, 3] rfl (by decide) (⟨by rw [ep_kext, if_pos c_8, if_pos s_22_0], by rw [ep_ext, if_pos s_22_0]⟩) d_D_extent_61 (Nat.le_of_ble_eq_true rfl) (Nat.le_of_ble_eq_true rfl)
    by_cases s_22_1 : y = 1
    · refine lv_tableIn (off := 40) (tgt := 62) hx hb d_D_extent_22 (by rw [s_22_1]; decide) (by rw [s_22_1]; decide) (by rw [s_22_1]; decide) (by decide) ?_
      refine lv_aload_n hx hb d_D_extent_62 rfl (lv_at hl 0 rfl) ?_
      refine va_get (D := (dC, dI)) (ci := 3) (v := .ref nw) (C := R_D) (T := T_D) (N := 7) hx hb hts in_D hown hK hP 0 rfl rfl 5 (by decide) (hts _ ew_114) (fun _ h9 => h9) rfl d_D_extent_63 ?_
      refine va_get (D := (dC, dI)) (ci := 0) (v := .ref n2) (C := R_M) (T := T_M) (N := 6) hx hb hts in_M hown hK hP 4 rfl rfl 1 (by decide) (hts _ ew_86) (fun _ h9 => h9) rfl d_D_extent_66 ?_
      refine lv_iload_n hx hb d_D_extent_69 rfl (lv_at hl 1 rfl) ?_
      refine va_iald hx hb hK hP 2 0 rfl rfl (ey_holds c_8) d_D_extent_70 ?_
      refine vx_ret ?_
      exact ey_iret (W1 := fun (u : Unit) => [(d0, .inr (3, [.ref pl, .ref tp, .ref wi, .ref pg, .ref te, .ref nw, .ref nx])), (nw, .inr (0, [.ref n1, .ref n2, .ref n3, .ref n4, .int ex, .int ch])), (n1, .inl (cI, 200, .inl la)), (n2, .inl (cI, 200, .inl fi)), (n3, .inl (cI, 200, .inl si))]) hx hb hr hlocks hP hD hS () [0, 4, 1, 2, 3] rfl (by decide) (⟨by rw [ep_kext, if_pos c_8, if_neg s_22_0, if_pos s_22_1], by rw [ep_ext, if_neg s_22_0, if_pos s_22_1]⟩) d_D_extent_71 (Nat.le_of_ble_eq_true rfl) (Nat.le_of_ble_eq_true rfl)
    by_cases s_22_2 : y = 2
    · refine lv_tableIn (off := 50) (tgt := 72) hx hb d_D_extent_22 (by rw [s_22_2]; decide) (by rw [s_22_2]; decide) (by rw [s_22_2]; decide) (by decide) ?_
      refine lv_aload_n hx hb d_D_extent_72 rfl (lv_at hl 0 rfl) ?_
      refine va_get (D := (dC, dI)) (ci := 3) (v := .ref nw) (C := R_D) (T := T_D) (N := 7) hx hb hts in_D hown hK hP 0 rfl rfl 5 (by decide) (hts _ ew_114) (fun _ h9 => h9) rfl d_D_extent_73 ?_
      refine va_get (D := (dC, dI)) (ci := 0) (v := .ref n3) (C := R_M) (T := T_M) (N := 6) hx hb hts in_M hown hK hP 4 rfl rfl 2 (by decide) (hts _ ew_88) (fun _ h9 => h9) rfl d_D_extent_76 ?_
      refine lv_iload_n hx hb d_D_extent_79 rfl (lv_at hl 1 rfl) ?_
      refine va_iald hx hb hK hP 3 0 rfl rfl (ey_holds c_8) d_D_extent_80 ?_
      refine ey_Si (Wc := []) (wr := [(d0, .inr (3, [.ref pl, .ref tp, .ref wi, .ref pg, .ref te, .ref nw, .ref nx])), (n1, .inl (cI, 200, .inl la)), (n2, .inl (cI, 200, .inl fi)), (n3, .inl (cI, 200, .inl si)), (nw, .inr (0, [.ref n1, .ref n2, .ref n3, .ref n4, .int ex, .int ch]))]) (As := [.int (si x.toNatClampNeg)]) (rest := []) ⟨hx, hb, hml, hown, hts⟩ (c_ed_blocks l dC dI cI cB cJ cZ (si x.toNatClampNeg)) (va_cwS 1 hts (ew_S ew_327 ew_328 ew_13 g_D_blocksFor) rfl rfl rfl (by decide +kernel) ⟨Nat.le_of_ble_eq_true rfl, Nat.le_of_ble_eq_true rfl⟩) hK hG hP hD hS hA [] [0, 1, 2, 3, 4] rfl rfl (by decide) (by decide) (by decide) rfl hl.1 rfl (Nat.le_of_ble_eq_true rfl) d_D_extent_81 ⟨Nat.le_of_ble_eq_true rfl, Nat.le_of_ble_eq_true rfl⟩ (fun r_4 u_5 H locs e_6 hP hD hS => ?_)
      have hP : va_P (dC, dI) vwCl [(d0, .inr (3, [.ref pl, .ref tp, .ref wi, .ref pg, .ref te, .ref nw, .ref nx])), (n1, .inl (cI, 200, .inl la)), (n2, .inl (cI, 200, .inl fi)), (n3, .inl (cI, 200, .inl si)), (nw, .inr (0, [.ref n1, .ref n2, .ref n3, .ref n4, .int ex, .int ch]))] H := hP
      have hD : va_D A [(d0, .inr (3, [.ref pl, .ref tp, .ref wi, .ref pg, .ref te, .ref nw, .ref nx])), (n1, .inl (cI, 200, .inl la)), (n2, .inl (cI, 200, .inl fi)), (n3, .inl (cI, 200, .inl si)), (nw, .inr (0, [.ref n1, .ref n2, .ref n3, .ref n4, .int ex, .int ch]))] := hD
      subst e_6
      refine vx_ret ?_
      exact ey_iret (W1 := fun (u : Unit) => [(d0, .inr (3, [.ref pl, .ref tp, .ref wi, .ref pg, .ref te, .ref nw, .ref nx])), (nw, .inr (0, [.ref n1, .ref n2, .ref n3, .ref n4, .int ex, .int ch])), (n1, .inl (cI, 200, .inl la)), (n2, .inl (cI, 200, .inl fi)), (n3, .inl (cI, 200, .inl si))]) hx hb hr hlocks hP hD hS () [0, 4, 1, 2, 3] rfl (by decide) (⟨by rw [ep_kext, if_pos c_8, if_neg s_22_0, if_neg s_22_1, if_pos s_22_2], by rw [ep_ext, if_neg s_22_0, if_neg s_22_1, if_pos s_22_2]⟩) d_D_extent_84 (Nat.le_of_ble_eq_true rfl) (Nat.le_of_ble_eq_true rfl)
    by_cases s_22_3 : y = 3
    · refine lv_tableIn (off := 63) (tgt := 85) hx hb d_D_extent_22 (by rw [s_22_3]; decide) (by rw [s_22_3]; decide) (by rw [s_22_3]; decide) (by decide) ?_
      refine lv_aload_n hx hb d_D_extent_85 rfl (lv_at hl 0 rfl) ?_
      refine va_get (D := (dC, dI)) (ci := 3) (v := .ref nw) (C := R_D) (T := T_D) (N := 7) hx hb hts in_D hown hK hP 0 rfl rfl 5 (by decide) (hts _ ew_114) (fun _ h9 => h9) rfl d_D_extent_86 ?_
      refine va_get (D := (dC, dI)) (ci := 0) (v := .ref n3) (C := R_M) (T := T_M) (N := 6) hx hb hts in_M hown hK hP 4 rfl rfl 2 (by decide) (hts _ ew_88) (fun _ h9 => h9) rfl d_D_extent_89 ?_
      refine lv_iload_n hx hb d_D_extent_92 rfl (lv_at hl 1 rfl) ?_
      refine va_iald hx hb hK hP 3 0 rfl rfl (ey_holds c_8) d_D_extent_93 ?_
      refine vx_ret ?_
      exact ey_iret (W1 := fun (u : Unit) => [(d0, .inr (3, [.ref pl, .ref tp, .ref wi, .ref pg, .ref te, .ref nw, .ref nx])), (nw, .inr (0, [.ref n1, .ref n2, .ref n3, .ref n4, .int ex, .int ch])), (n1, .inl (cI, 200, .inl la)), (n2, .inl (cI, 200, .inl fi)), (n3, .inl (cI, 200, .inl si))]) hx hb hr hlocks hP hD hS () [0, 4, 1, 2, 3] rfl (by decide) (⟨by rw [ep_kext, if_pos c_8, if_neg s_22_0, if_neg s_22_1, if_neg s_22_2, if_pos s_22_3], by rw [ep_ext, if_neg s_22_0, if_neg s_22_1, if_neg s_22_2]⟩) d_D_extent_94 (Nat.le_of_ble_eq_true rfl) (Nat.le_of_ble_eq_true rfl)
    refine lv_tableOut (tgt := 95) hx hb d_D_extent_22 (by have a0 := lv_neT (a := 0) s_22_0 (by decide); have a1 := lv_neT (a := 1) s_22_1 (by decide); have a2 := lv_neT (a := 2) s_22_2 (by decide); have a3 := lv_neT (a := 3) s_22_3 (by decide); omega) (by decide) ?_
    have hP9 : va_P (dC, dI) vwCl [(d0, .inr (3, [.ref pl, .ref tp, .ref wi, .ref pg, .ref te, .ref nw, .ref nx])), (nw, .inr (0, [.ref n1, .ref n2, .ref n3, .ref n4, .int ex, .int ch])), (n1, .inl (cI, 200, .inl la)), (n2, .inl (cI, 200, .inl fi)), (n3, .inl (cI, 200, .inl si))] _ := ey_P (is := [0, 4, 1, 2, 3]) hP rfl
    have hD9 : va_D A [(d0, .inr (3, [.ref pl, .ref tp, .ref wi, .ref pg, .ref te, .ref nw, .ref nx])), (nw, .inr (0, [.ref n1, .ref n2, .ref n3, .ref n4, .int ex, .int ch])), (n1, .inl (cI, 200, .inl la)), (n2, .inl (cI, 200, .inl fi)), (n3, .inl (cI, 200, .inl si))] := hD.sub [0, 4, 1, 2, 3] (by decide) rfl
    obtain ⟨sa9, hstr9⟩ := ex_str (k := 129) (t := "what is not 0 .. 3") hG (by decide +kernel)
    exact vx_throwS (names := ["java/lang/RuntimeException", "java/lang/Exception"]) hx hb hl9 hown (by decide +kernel) (by decide +kernel) (hts _ ew_190) (hts _ ew_22) hstr9 (ex_hatA hG hts) ex_goodA hZ.1 hZ.2 hS (by rw [hml]; exact hl.1) d_D_extent_95 d_D_extent_98 d_D_extent_99 d_D_extent_101 d_D_extent_104 (fun x h9 => (hno x h9).elim) (Nat.le_of_ble_eq_true rfl) (Nat.le_of_ble_eq_true rfl) (Nat.le_of_ble_eq_true rfl) (Nat.le_of_ble_eq_true rfl) hlocks (fun t _ hz hk => ⟨(), trivial, ⟨Or.inl ⟨rfl, by rw [ep_kext, if_pos c_8, if_neg s_22_0, if_neg s_22_1, if_neg s_22_2, if_neg s_22_3]⟩, (ey_keptX hP9 hD9 hS hz hk).1⟩, (ey_keptX hP9 hD9 hS hz hk).2⟩) hS.2.2 (Nat.le_of_ble_eq_true rfl) (Nat.le_of_ble_eq_true rfl)
  · have hP9 : va_P (dC, dI) vwCl [(d0, .inr (3, [.ref pl, .ref tp, .ref wi, .ref pg, .ref te, .ref nw, .ref nx])), (nw, .inr (0, [.ref n1, .ref n2, .ref n3, .ref n4, .int ex, .int ch])), (n1, .inl (cI, 200, .inl la)), (n2, .inl (cI, 200, .inl fi)), (n3, .inl (cI, 200, .inl si))] _ := ey_P (is := [0, 4, 1, 2, 3]) hP rfl
    have hD9 : va_D A [(d0, .inr (3, [.ref pl, .ref tp, .ref wi, .ref pg, .ref te, .ref nw, .ref nx])), (nw, .inr (0, [.ref n1, .ref n2, .ref n3, .ref n4, .int ex, .int ch])), (n1, .inl (cI, 200, .inl la)), (n2, .inl (cI, 200, .inl fi)), (n3, .inl (cI, 200, .inl si))] := hD.sub [0, 4, 1, 2, 3] (by decide) rfl
    obtain ⟨sa9, hstr9⟩ := ex_str (k := 118) (t := "there is no such extent") hG (by decide +kernel)
    exact vx_throwS (names := ["java/lang/RuntimeException", "java/lang/Exception"]) hx hb hl9 hown (by decide +kernel) (by decide +kernel) (hts _ ew_190) (hts _ ew_22) hstr9 (ex_hatA hG hts) ex_goodA hZ.1 hZ.2 hS (by rw [hml]; exact hl.1) d_D_extent_11 d_D_extent_14 d_D_extent_15 d_D_extent_17 d_D_extent_20 (fun x h9 => (hno x h9).elim) (Nat.le_of_ble_eq_true rfl) (Nat.le_of_ble_eq_true rfl) (Nat.le_of_ble_eq_true rfl) (Nat.le_of_ble_eq_true rfl) hlocks (fun t _ hz hk => ⟨(), trivial, ⟨Or.inl ⟨rfl, by rw [ep_kext, if_neg (fun h9 => h9 c_8)]⟩, (ey_keptX hP9 hD9 hS hz hk).1⟩, (ey_keptX hP9 hD9 hS hz hk).2⟩) hS.2.2 (Nat.le_of_ble_eq_true rfl) (Nat.le_of_ble_eq_true rfl)
