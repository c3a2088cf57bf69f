set_option maxHeartbeats 4000000 in
set_option maxRecDepth 100000 in
theorem c_k_thrown (l : Launch) (dC : Nat → ClassId) (dI : Nat → Nat → Nat) (cI cB cJ cZ : ClassId) (k0 a1 a2 a3 a4 a5 a6 a7 a8 a9 : Nat) (co : Int32) (nB : Nat) (dn wr lf : Int32) (E : Nat) (ch : Int32) (t : Nat) : ey_Mi l y_K_thrown w_K_thrown { frames := 0, cells := 0, slots := 0, locals := 0 } (dC, dI) vwCl (ey_kt cI cB cJ cZ) [.ref k0] [(k0, .inr (4, [.int co, .int (nI nB), .int dn, .int wr, .int lf, .int (nI E), .ref a1, .ref a2, .ref a3, .ref a4, .ref a5, .int ch, .ref a6, .ref a7, .ref a8, .int (nI t), .ref a9]))] (fun (r : Int32) (u : Unit) => r = co) (fun (u : Unit) => [(k0, .inr (4, [.int co, .int (nI nB), .int dn, .int wr, .int lf, .int (nI E), .ref a1, .ref a2, .ref a3, .ref a4, .ref a5, .int ch, .ref a6, .ref a7, .ref a8, .int (nI t), .ref a9]))]) 0 0 := by
  intro sz
  refine Met.ofW (cc := b_K_thrown) (maxL := 1) (ret := (some .int)) (by decide) rfl ?_
  intro p e s m args below meth c s₁ B hml hv
  obtain ⟨rfl, hsz, hP, hK, hG, hD0⟩ := hv
  have hx := B.exec
  have hb := B.bytes
  have hr := B.returns
  have hts := fun (w : Cond) (h : w ∈ ew_T) => atoms_spec (ws := w_K_thrown) B.pre w (List.mem_cons_of_mem _ h)
  have hown : s.vm.findClass R_K = some m.cls := findClass_of_methodNamed B.named
  have hlocks := B.notSynchronized
  subst hsz
  have hD := hD0.self (sz := s.heap.size)
  generalize hAe : va_A [(k0, .inr (4, [.int co, .int (nI nB), .int dn, .int wr, .int lf, .int (nI E), .ref a1, .ref a2, .ref a3, .ref a4, .ref a5, .int ch, .ref a6, .ref a7, .ref a8, .int (nI t), .ref a9]))] s.heap.size = A at hD ⊢
  have hA : ∀ q : Nat, s.heap.size ≤ q → A q := fun q h => by rw [← hAe]; exact Or.inr h
  have hS : va_S A s.heap s.heap [] := va_S.rf
  have hP : va_P (dC, dI) vwCl [(k0, .inr (4, [.int co, .int (nI nB), .int dn, .int wr, .int lf, .int (nI E), .ref a1, .ref a2, .ref a3, .ref a4, .ref a5, .int ch, .ref a6, .ref a7, .ref a8, .int (nI t), .ref a9]))] s.heap := hP
  have hl := lv_entry ([.ref k0]) (n := 1) (Nat.le_of_ble_eq_true rfl)
  rw [lg_entry_eq]
  generalize (lg_sl ([.ref k0]) ++ List.replicate (1 - (lg_sl ([.ref k0])).length) Slot.unset).toArray = ls at hl ⊢
  have hl : lv_has ls 1 [(0, .ref k0)] := hl
  refine lv_aload_n hx hb d_K_thrown_0 rfl (lv_at hl 0 rfl) ?_
  refine va_get (D := (dC, dI)) (ci := 4) (v := .int co) (C := R_K) (T := T_K) (N := 17) hx hb hts in_K hown hK hP 0 rfl rfl 0 (by decide) (hts _ ew_419) (fun _ h9 => h9) rfl d_K_thrown_1 ?_
  exact ey_iret (W1 := fun (u : Unit) => [(k0, .inr (4, [.int co, .int (nI nB), .int dn, .int wr, .int lf, .int (nI E), .ref a1, .ref a2, .ref a3, .ref a4, .ref a5, .int ch, .ref a6, .ref a7, .ref a8, .int (nI t), .ref a9]))]) hx hb hr hlocks hP hD hS () [0] rfl (by decide) rfl d_K_thrown_4 (Nat.le_of_ble_eq_true rfl) (Nat.le_of_ble_eq_true rfl)
set_option maxHeartbeats 4000000 in
set_option maxRecDepth 100000 in
theorem c_k_isDown (l : Launch) (dC : Nat → ClassId) (dI : Nat → Nat → Nat) (cI cB cJ cZ : ClassId) (k0 a1 a2 a3 a4 a5 a6 a7 a8 a9 : Nat) (co : Int32) (nB : Nat) (dn wr lf : Int32) (E : Nat) (ch : Int32) (t : Nat) (hdn : dn = 0 ∨ dn = 1) : ey_Mi l y_K_isDown w_K_isDown { frames := 0, cells := 0, slots := 0, locals := 0 } (dC, dI) vwCl (ey_kt cI cB cJ cZ) [.ref k0] [(k0, .inr (4, [.int co, .int (nI nB), .int dn, .int wr, .int lf, .int (nI E), .ref a1, .ref a2, .ref a3, .ref a4, .ref a5, .int ch, .ref a6, .ref a7, .ref a8, .int (nI t), .ref a9]))] (fun (r : Int32) (u : Unit) => r = dn) (fun (u : Unit) => [(k0, .inr (4, [.int 0, .int (nI nB), .int dn, .int wr, .int lf, .int (nI E), .ref a1, .ref a2, .ref a3, .ref a4, .ref a5, .int ch, .ref a6, .ref a7, .ref a8, .int (nI t), .ref a9]))]) 0 0 := by
  intro sz
  refine Met.ofW (cc := b_K_isDown) (maxL := 1) (ret := (some .boolean)) (by decide) rfl ?_
  intro p e s m args below meth c s₁ B hml hv
  obtain ⟨rfl, hsz, hP, hK, hG, hD0⟩ := hv
  have hx := B.exec
  have hb := B.bytes
  have hr := B.returns
  have hts := fun (w : Cond) (h : w ∈ ew_T) => atoms_spec (ws := w_K_isDown) B.pre w (List.mem_cons_of_mem _ h)
  have hown : s.vm.findClass R_K = some m.cls := findClass_of_methodNamed B.named
  have hlocks := B.notSynchronized
  subst hsz
  have hD := hD0.self (sz := s.heap.size)
  generalize hAe : va_A [(k0, .inr (4, [.int co, .int (nI nB), .int dn, .int wr, .int lf, .int (nI E), .ref a1, .ref a2, .ref a3, .ref a4, .ref a5, .int ch, .ref a6, .ref a7, .ref a8, .int (nI t), .ref a9]))] s.heap.size = A at hD ⊢
  have hA : ∀ q : Nat, s.heap.size ≤ q → A q := fun q h => by rw [← hAe]; exact Or.inr h
  have hS : va_S A s.heap s.heap [] := va_S.rf
  have hP : va_P (dC, dI) vwCl [(k0, .inr (4, [.int co, .int (nI nB), .int dn, .int wr, .int lf, .int (nI E), .ref a1, .ref a2, .ref a3, .ref a4, .ref a5, .int ch, .ref a6, .ref a7, .ref a8, .int (nI t), .ref a9]))] s.heap := hP
  have hl := lv_entry ([.ref k0]) (n := 1) (Nat.le_of_ble_eq_true rfl)
  rw [lg_entry_eq]
  generalize (lg_sl ([.ref k0]) ++ List.replicate (1 - (lg_sl ([.ref k0])).length) Slot.unset).toArray = ls at hl ⊢
  have hl : lv_has ls 1 [(0, .ref k0)] := hl
  refine lv_aload_n hx hb d_K_isDown_0 rfl (lv_at hl 0 rfl) ?_
  refine lv_iconst (v := 0) hx hb d_K_isDown_1 (by decide) ?_
  refine va_put (D := (dC, dI)) (ci := 4) (v := .int 0) (ty := .int) (C := R_K) (T := T_K) (N := 17) hx hb hts in_K t_K t_K_ok n_K hown hK hP hD hS 0 rfl rfl 0 (by decide) (hts _ ew_419) (fun _ h9 => h9) rfl (by decide +kernel) rfl rfl (Nat.le_of_ble_eq_true rfl) d_K_isDown_2 (fun H locs hP hD hS => ?_)
  have hP : va_P (dC, dI) vwCl [(k0, .inr (4, [.int 0, .int (nI nB), .int dn, .int wr, .int lf, .int (nI E), .ref a1, .ref a2, .ref a3, .ref a4, .ref a5, .int ch, .ref a6, .ref a7, .ref a8, .int (nI t), .ref a9]))] H := hP
  have hD : va_D A [(k0, .inr (4, [.int 0, .int (nI nB), .int dn, .int wr, .int lf, .int (nI E), .ref a1, .ref a2, .ref a3, .ref a4, .ref a5, .int ch, .ref a6, .ref a7, .ref a8, .int (nI t), .ref a9]))] := hD
  refine lv_aload_n hx hb d_K_isDown_5 rfl (lv_at hl 0 rfl) ?_
  refine va_get (D := (dC, dI)) (ci := 4) (v := .int dn) (C := R_K) (T := T_K) (N := 17) hx hb hts in_K hown hK hP 0 rfl rfl 2 (by decide) (hts _ ew_421) (fun _ h9 => h9) rfl d_K_isDown_6 ?_
  exact ey_zret (W1 := fun (u : Unit) => [(k0, .inr (4, [.int 0, .int (nI nB), .int dn, .int wr, .int lf, .int (nI E), .ref a1, .ref a2, .ref a3, .ref a4, .ref a5, .int ch, .ref a6, .ref a7, .ref a8, .int (nI t), .ref a9]))]) hx hb hr hlocks hP hD hS () [0] rfl (by decide) rfl d_K_isDown_9 (Nat.le_of_ble_eq_true rfl) (Nat.le_of_ble_eq_true rfl) (by rcases hdn with h | h <;> rw [h] <;> rfl)
set_option maxHeartbeats 4000000 in
set_option maxRecDepth 100000 in
theorem c_k_writes (l : Launch) (dC : Nat → ClassId) (dI : Nat → Nat → Nat) (cI cB cJ cZ : ClassId) (k0 a1 a2 a3 a4 a5 a6 a7 a8 a9 : Nat) (co : Int32) (nB : Nat) (dn wr lf : Int32) (E : Nat) (ch : Int32) (t : Nat) : ey_Mi l y_K_writes w_K_writes { frames := 0, cells := 0, slots := 0, locals := 0 } (dC, dI) vwCl (ey_kt cI cB cJ cZ) [.ref k0] [(k0, .inr (4, [.int co, .int (nI nB), .int dn, .int wr, .int lf, .int (nI E), .ref a1, .ref a2, .ref a3, .ref a4, .ref a5, .int ch, .ref a6, .ref a7, .ref a8, .int (nI t), .ref a9]))] (fun (r : Int32) (u : Unit) => r = wr) (fun (u : Unit) => [(k0, .inr (4, [.int 0, .int (nI nB), .int dn, .int wr, .int lf, .int (nI E), .ref a1, .ref a2, .ref a3, .ref a4, .ref a5, .int ch, .ref a6, .ref a7, .ref a8, .int (nI t), .ref a9]))]) 0 0 := by
  intro sz
  refine Met.ofW (cc := b_K_writes) (maxL := 1) (ret := (some .int)) (by decide) rfl ?_
  intro p e s m args below meth c s₁ B hml hv
  obtain ⟨rfl, hsz, hP, hK, hG, hD0⟩ := hv
  have hx := B.exec
  have hb := B.bytes
  have hr := B.returns
  have hts := fun (w : Cond) (h : w ∈ ew_T) => atoms_spec (ws := w_K_writes) B.pre w (List.mem_cons_of_mem _ h)
  have hown : s.vm.findClass R_K = some m.cls := findClass_of_methodNamed B.named
  have hlocks := B.notSynchronized
  subst hsz
  have hD := hD0.self (sz := s.heap.size)
  generalize hAe : va_A [(k0, .inr (4, [.int co, .int (nI nB), .int dn, .int wr, .int lf, .int (nI E), .ref a1, .ref a2, .ref a3, .ref a4, .ref a5, .int ch, .ref a6, .ref a7, .ref a8, .int (nI t), .ref a9]))] s.heap.size = A at hD ⊢
  have hA : ∀ q : Nat, s.heap.size ≤ q → A q := fun q h => by rw [← hAe]; exact Or.inr h
  have hS : va_S A s.heap s.heap [] := va_S.rf
  have hP : va_P (dC, dI) vwCl [(k0, .inr (4, [.int co, .int (nI nB), .int dn, .int wr, .int lf, .int (nI E), .ref a1, .ref a2, .ref a3, .ref a4, .ref a5, .int ch, .ref a6, .ref a7, .ref a8, .int (nI t), .ref a9]))] s.heap := hP
  have hl := lv_entry ([.ref k0]) (n := 1) (Nat.le_of_ble_eq_true rfl)
  rw [lg_entry_eq]
  generalize (lg_sl ([.ref k0]) ++ List.replicate (1 - (lg_sl ([.ref k0])).length) Slot.unset).toArray = ls at hl ⊢
  have hl : lv_has ls 1 [(0, .ref k0)] := hl
  refine lv_aload_n hx hb d_K_writes_0 rfl (lv_at hl 0 rfl) ?_
  refine lv_iconst (v := 0) hx hb d_K_writes_1 (by decide) ?_
  refine va_put (D := (dC, dI)) (ci := 4) (v := .int 0) (ty := .int) (C := R_K) (T := T_K) (N := 17) hx hb hts in_K t_K t_K_ok n_K hown hK hP hD hS 0 rfl rfl 0 (by decide) (hts _ ew_419) (fun _ h9 => h9) rfl (by decide +kernel) rfl rfl (Nat.le_of_ble_eq_true rfl) d_K_writes_2 (fun H locs hP hD hS => ?_)
  have hP : va_P (dC, dI) vwCl [(k0, .inr (4, [.int 0, .int (nI nB), .int dn, .int wr, .int lf, .int (nI E), .ref a1, .ref a2, .ref a3, .ref a4, .ref a5, .int ch, .ref a6, .ref a7, .ref a8, .int (nI t), .ref a9]))] H := hP
  have hD : va_D A [(k0, .inr (4, [.int 0, .int (nI nB), .int dn, .int wr, .int lf, .int (nI E), .ref a1, .ref a2, .ref a3, .ref a4, .ref a5, .int ch, .ref a6, .ref a7, .ref a8, .int (nI t), .ref a9]))] := hD
  refine lv_aload_n hx hb d_K_writes_5 rfl (lv_at hl 0 rfl) ?_
  refine va_get (D := (dC, dI)) (ci := 4) (v := .int wr) (C := R_K) (T := T_K) (N := 17) hx hb hts in_K hown hK hP 0 rfl rfl 3 (by decide) (hts _ ew_422) (fun _ h9 => h9) rfl d_K_writes_6 ?_
  exact ey_iret (W1 := fun (u : Unit) => [(k0, .inr (4, [.int 0, .int (nI nB), .int dn, .int wr, .int lf, .int (nI E), .ref a1, .ref a2, .ref a3, .ref a4, .ref a5, .int ch, .ref a6, .ref a7, .ref a8, .int (nI t), .ref a9]))]) hx hb hr hlocks hP hD hS () [0] rfl (by decide) rfl d_K_writes_9 (Nat.le_of_ble_eq_true rfl) (Nat.le_of_ble_eq_true rfl)
set_option maxHeartbeats 4000000 in
set_option maxRecDepth 100000 in
theorem c_k_drop (l : Launch) (dC : Nat → ClassId) (dI : Nat → Nat → Nat) (cI cB cJ cZ : ClassId) (k0 a1 a2 a3 a4 a5 a6 a7 a8 a9 : Nat) (co : Int32) (nB : Nat) (dn wr lf : Int32) (E : Nat) (ch : Int32) (t : Nat) : ey_Mi l y_K_drop w_K_drop { frames := 0, cells := 0, slots := 0, locals := 0 } (dC, dI) vwCl (ey_kt cI cB cJ cZ) [.ref k0] [(k0, .inr (4, [.int co, .int (nI nB), .int dn, .int wr, .int lf, .int (nI E), .ref a1, .ref a2, .ref a3, .ref a4, .ref a5, .int ch, .ref a6, .ref a7, .ref a8, .int (nI t), .ref a9]))] (fun (r : Int32) (u : Int32 × Nat) => (r, u) = ek_drop dn t) (fun (u : Int32 × Nat) => [(k0, .inr (4, [.int u.1, .int (nI nB), .int dn, .int wr, .int lf, .int (nI E), .ref a1, .ref a2, .ref a3, .ref a4, .ref a5, .int ch, .ref a6, .ref a7, .ref a8, .int (nI u.2), .ref a9]))]) 0 0 := by
  intro sz
  refine Met.ofW (cc := b_K_drop) (maxL := 2) (ret := (some .int)) (by decide) rfl ?_
  intro p e s m args below meth c s₁ B hml hv
  obtain ⟨rfl, hsz, hP, hK, hG, hD0⟩ := hv
  have hx := B.exec
  have hb := B.bytes
  have hr := B.returns
  have hts := fun (w : Cond) (h : w ∈ ew_T) => atoms_spec (ws := w_K_drop) B.pre w (List.mem_cons_of_mem _ h)
  have hown : s.vm.findClass R_K = some m.cls := findClass_of_methodNamed B.named
  have hlocks := B.notSynchronized
  subst hsz
  have hD := hD0.self (sz := s.heap.size)
  generalize hAe : va_A [(k0, .inr (4, [.int co, .int (nI nB), .int dn, .int wr, .int lf, .int (nI E), .ref a1, .ref a2, .ref a3, .ref a4, .ref a5, .int ch, .ref a6, .ref a7, .ref a8, .int (nI t), .ref a9]))] s.heap.size = A at hD ⊢
  have hA : ∀ q : Nat, s.heap.size ≤ q → A q := fun q h => by rw [← hAe]; exact Or.inr h
  have hS : va_S A s.heap s.heap [] := va_S.rf
  have hP : va_P (dC, dI) vwCl [(k0, .inr (4, [.int co, .int (nI nB), .int dn, .int wr, .int lf, .int (nI E), .ref a1, .ref a2, .ref a3, .ref a4, .ref a5, .int ch, .ref a6, .ref a7, .ref a8, .int (nI t), .ref a9]))] s.heap := hP
  have hl := lv_entry ([.ref k0]) (n := 2) (Nat.le_of_ble_eq_true rfl)
  rw [lg_entry_eq]
  generalize (lg_sl ([.ref k0]) ++ List.replicate (2 - (lg_sl ([.ref k0])).length) Slot.unset).toArray = ls at hl ⊢
  have hl : lv_has ls 2 [(0, .ref k0)] := hl
  refine lv_aload_n hx hb d_K_drop_0 rfl (lv_at hl 0 rfl) ?_
  refine lv_aload_n hx hb d_K_drop_1 rfl (lv_at hl 0 rfl) ?_
  refine va_get (D := (dC, dI)) (ci := 4) (v := .int dn) (C := R_K) (T := T_K) (N := 17) hx hb hts in_K hown hK hP 0 rfl rfl 2 (by decide) (hts _ ew_421) (fun _ h9 => h9) rfl d_K_drop_2 ?_
  refine lv_if_eq (tgt := 12) hx hb d_K_drop_5 (by decide) (fun c_5 => ?_) (fun c_5 => ?_)
  · refine lv_iconst (v := 0) hx hb d_K_drop_12 (by decide) ?_
    refine va_put (D := (dC, dI)) (ci := 4) (v := .int 0) (ty := .int) (C := R_K) (T := T_K) (N := 17) hx hb hts in_K t_K t_K_ok n_K hown hK hP hD hS 0 rfl rfl 0 (by decide) (hts _ ew_419) (fun _ h9 => h9) rfl (by decide +kernel) rfl rfl (Nat.le_of_ble_eq_true rfl) d_K_drop_13 (fun H locs hP hD hS => ?_)
    have hP : va_P (dC, dI) vwCl [(k0, .inr (4, [.int 0, .int (nI nB), .int dn, .int wr, .int lf, .int (nI E), .ref a1, .ref a2, .ref a3, .ref a4, .ref a5, .int ch, .ref a6, .ref a7, .ref a8, .int (nI t), .ref a9]))] H := hP
    have hD : va_D A [(k0, .inr (4, [.int 0, .int (nI nB), .int dn, .int wr, .int lf, .int (nI E), .ref a1, .ref a2, .ref a3, .ref a4, .ref a5, .int ch, .ref a6, .ref a7, .ref a8, .int (nI t), .ref a9]))] := hD
    refine lv_aload_n hx hb d_K_drop_16 rfl (lv_at hl 0 rfl) ?_
    refine va_get (D := (dC, dI)) (ci := 4) (v := .int 0) (C := R_K) (T := T_K) (N := 17) hx hb hts in_K hown hK hP 0 rfl rfl 0 (by decide) (hts _ ew_419) (fun _ h9 => h9) rfl d_K_drop_17 ?_
    refine lv_if_le (tgt := 25) hx hb d_K_drop_20 (by decide) (fun c_20 => ?_) (fun c_20 => ?_)
    · refine lv_aload_n hx hb d_K_drop_25 rfl (lv_at hl 0 rfl) ?_
      refine va_get (D := (dC, dI)) (ci := 4) (v := .int (nI t)) (C := R_K) (T := T_K) (N := 17) hx hb hts in_K hown hK hP 0 rfl rfl 15 (by decide) (hts _ ew_434) (fun _ h9 => h9) rfl d_K_drop_26 ?_
      refine lv_istore_n (lv' := [(1, .int (nI t)), (0, .ref k0)]) hx hb d_K_drop_29 rfl hl (by decide) rfl (fun ls hl => ?_)
      refine lv_aload_n hx hb d_K_drop_30 rfl (lv_at hl 1 rfl) ?_
      refine lv_iconst (v := nI 0) hx hb d_K_drop_31 (by decide) ?_
      refine va_put (D := (dC, dI)) (ci := 4) (v := .int (nI 0)) (ty := .int) (C := R_K) (T := T_K) (N := 17) hx hb hts in_K t_K t_K_ok n_K hown hK hP hD hS 0 rfl rfl 15 (by decide) (hts _ ew_434) (fun _ h9 => h9) rfl (by decide +kernel) rfl rfl (Nat.le_of_ble_eq_true rfl) d_K_drop_32 (fun H locs hP hD hS => ?_)
      have hP : va_P (dC, dI) vwCl [(k0, .inr (4, [.int 0, .int (nI nB), .int dn, .int wr, .int lf, .int (nI E), .ref a1, .ref a2, .ref a3, .ref a4, .ref a5, .int ch, .ref a6, .ref a7, .ref a8, .int (nI 0), .ref a9]))] H := hP
      have hD : va_D A [(k0, .inr (4, [.int 0, .int (nI nB), .int dn, .int wr, .int lf, .int (nI E), .ref a1, .ref a2, .ref a3, .ref a4, .ref a5, .int ch, .ref a6, .ref a7, .ref a8, .int (nI 0), .ref a9]))] := hD
      refine lv_iload_n hx hb d_K_drop_35 rfl (lv_at hl 0 rfl) ?_
      exact ey_iret (W1 := fun (u : Int32 × Nat) => [(k0, .inr (4, [.int u.1, .int (nI nB), .int dn, .int wr, .int lf, .int (nI E), .ref a1, .ref a2, .ref a3, .ref a4, .ref a5, .int ch, .ref a6, .ref a7, .ref a8, .int (nI u.2), .ref a9]))]) hx hb hr hlocks hP hD hS (0, 0) [0] rfl (by decide) (by rw [ek_drop, if_pos c_5]) d_K_drop_36 (Nat.le_of_ble_eq_true rfl) (Nat.le_of_ble_eq_true rfl)
    · exact absurd c_20 (by decide)
  · refine lv_iconst (v := 1) hx hb d_K_drop_8 (by decide) ?_
    refine lv_goto (tgt := 13) hx hb d_K_drop_9 (by decide) ?_
    refine va_put (D := (dC, dI)) (ci := 4) (v := .int 1) (ty := .int) (C := R_K) (T := T_K) (N := 17) hx hb hts in_K t_K t_K_ok n_K hown hK hP hD hS 0 rfl rfl 0 (by decide) (hts _ ew_419) (fun _ h9 => h9) rfl (by decide +kernel) rfl rfl (Nat.le_of_ble_eq_true rfl) d_K_drop_13 (fun H locs hP hD hS => ?_)
    have hP : va_P (dC, dI) vwCl [(k0, .inr (4, [.int 1, .int (nI nB), .int dn, .int wr, .int lf, .int (nI E), .ref a1, .ref a2, .ref a3, .ref a4, .ref a5, .int ch, .ref a6, .ref a7, .ref a8, .int (nI t), .ref a9]))] H := hP
    have hD : va_D A [(k0, .inr (4, [.int 1, .int (nI nB), .int dn, .int wr, .int lf, .int (nI E), .ref a1, .ref a2, .ref a3, .ref a4, .ref a5, .int ch, .ref a6, .ref a7, .ref a8, .int (nI t), .ref a9]))] := hD
    refine lv_aload_n hx hb d_K_drop_16 rfl (lv_at hl 0 rfl) ?_
    refine va_get (D := (dC, dI)) (ci := 4) (v := .int 1) (C := R_K) (T := T_K) (N := 17) hx hb hts in_K hown hK hP 0 rfl rfl 0 (by decide) (hts _ ew_419) (fun _ h9 => h9) rfl d_K_drop_17 ?_
    refine lv_if_le (tgt := 25) hx hb d_K_drop_20 (by decide) (fun c_20 => ?_) (fun c_20 => ?_)
    · exact absurd c_20 (by decide)
    · refine lv_iconst (v := 0) hx hb d_K_drop_23 (by decide) ?_
      exact ey_iret (W1 := fun (u : Int32 × Nat) => [(k0, .inr (4, [.int u.1, .int (nI nB), .int dn, .int wr, .int lf, .int (nI E), .ref a1, .ref a2, .ref a3, .ref a4, .ref a5, .int ch, .ref a6, .ref a7, .ref a8, .int (nI u.2), .ref a9]))]) hx hb hr hlocks hP hD hS (1, t) [0] rfl (by decide) (by rw [ek_drop, if_neg c_5]) d_K_drop_24 (Nat.le_of_ble_eq_true rfl) (Nat.le_of_ble_eq_true rfl)
set_option maxHeartbeats 4000000 in
set_option maxRecDepth 100000 in
theorem c_k_wish (l : Launch) (dC : Nat → ClassId) (dI : Nat → Nat → Nat) (cI cB cJ cZ : ClassId) (k0 a1 a2 a3 a4 a5 a6 a7 a8 a9 : Nat) (co : Int32) (nB : Nat) (dn wr lf : Int32) (E : Nat) (ch : Int32) (t : Nat) (wf : ep_F) (x y : Int32) : ey_Mi l y_K_wish w_K_wish { frames := 0, cells := 0, slots := 0, locals := 0 } (dC, dI) vwCl (ey_kt cI cB cJ cZ) [.ref k0, .int x, .int y] [(k0, .inr (4, [.int co, .int (nI nB), .int dn, .int wr, .int lf, .int (nI E), .ref a1, .ref a2, .ref a3, .ref a4, .ref a5, .int ch, .ref a6, .ref a7, .ref a8, .int (nI t), .ref a9])), (a8, .inl (cI, 24, .inl wf))] (fun (r : Int32) (u : Int32 × ep_F) => (r, u) = ek_wish dn x y wf) (fun (u : Int32 × ep_F) => [(k0, .inr (4, [.int u.1, .int (nI nB), .int dn, .int wr, .int lf, .int (nI E), .ref a1, .ref a2, .ref a3, .ref a4, .ref a5, .int ch, .ref a6, .ref a7, .ref a8, .int (nI t), .ref a9])), (a8, .inl (cI, 24, .inl u.2))]) 0 0 := by
  intro sz
  refine Met.ofW (cc := b_K_wish) (maxL := 4) (ret := (some .int)) (by decide) rfl ?_
  intro p e s m args below meth c s₁ B hml hv
  obtain ⟨rfl, hsz, hP, hK, hG, hD0⟩ := hv
  have hx := B.exec
  have hb := B.bytes
  have hr := B.returns
  have hts := fun (w : Cond) (h : w ∈ ew_T) => atoms_spec (ws := w_K_wish) B.pre w (List.mem_cons_of_mem _ h)
  have hown : s.vm.findClass R_K = some m.cls := findClass_of_methodNamed B.named
  have hlocks := B.notSynchronized
  subst hsz
  have hD := hD0.self (sz := s.heap.size)
  generalize hAe : va_A [(k0, .inr (4, [.int co, .int (nI nB), .int dn, .int wr, .int lf, .int (nI E), .ref a1, .ref a2, .ref a3, .ref a4, .ref a5, .int ch, .ref a6, .ref a7, .ref a8, .int (nI t), .ref a9])), (a8, .inl (cI, 24, .inl wf))] s.heap.size = A at hD ⊢
  have hA : ∀ q : Nat, s.heap.size ≤ q → A q := fun q h => by rw [← hAe]; exact Or.inr h
  have hS : va_S A s.heap s.heap [] := va_S.rf
  have hP : va_P (dC, dI) vwCl [(k0, .inr (4, [.int co, .int (nI nB), .int dn, .int wr, .int lf, .int (nI E), .ref a1, .ref a2, .ref a3, .ref a4, .ref a5, .int ch, .ref a6, .ref a7, .ref a8, .int (nI t), .ref a9])), (a8, .inl (cI, 24, .inl wf))] s.heap := hP
  have hl := lv_entry ([.ref k0, .int x, .int y]) (n := 4) (Nat.le_of_ble_eq_true rfl)
  rw [lg_entry_eq]
  generalize (lg_sl ([.ref k0, .int x, .int y]) ++ List.replicate (4 - (lg_sl ([.ref k0, .int x, .int y])).length) Slot.unset).toArray = ls at hl ⊢
  have hl : lv_has ls 4 [(0, .ref k0), (1, .int x), (2, .int y)] := hl
  refine lv_aload_n hx hb d_K_wish_0 rfl (lv_at hl 0 rfl) ?_
  refine lv_iload_n hx hb d_K_wish_1 rfl (lv_at hl 1 rfl) ?_
  refine lv_if_lt (tgt := 11) hx hb d_K_wish_2 (by decide) (fun c_2 => ?_) (fun c_2 => ?_)
  · refine lv_iconst (v := 1) hx hb d_K_wish_11 (by decide) ?_
    refine lv_goto (tgt := 27) hx hb d_K_wish_12 (by decide) ?_
    refine va_put (D := (dC, dI)) (ci := 4) (v := .int 1) (ty := .int) (C := R_K) (T := T_K) (N := 17) hx hb hts in_K t_K t_K_ok n_K hown hK hP hD hS 0 rfl rfl 0 (by decide) (hts _ ew_419) (fun _ h9 => h9) rfl (by decide +kernel) rfl rfl (Nat.le_of_ble_eq_true rfl) d_K_wish_27 (fun H locs hP hD hS => ?_)
    have hP : va_P (dC, dI) vwCl [(k0, .inr (4, [.int 1, .int (nI nB), .int dn, .int wr, .int lf, .int (nI E), .ref a1, .ref a2, .ref a3, .ref a4, .ref a5, .int ch, .ref a6, .ref a7, .ref a8, .int (nI t), .ref a9])), (a8, .inl (cI, 24, .inl wf))] H := hP
    have hD : va_D A [(k0, .inr (4, [.int 1, .int (nI nB), .int dn, .int wr, .int lf, .int (nI E), .ref a1, .ref a2, .ref a3, .ref a4, .ref a5, .int ch, .ref a6, .ref a7, .ref a8, .int (nI t), .ref a9])), (a8, .inl (cI, 24, .inl wf))] := hD
    refine lv_aload_n hx hb d_K_wish_30 rfl (lv_at hl 0 rfl) ?_
    refine va_get (D := (dC, dI)) (ci := 4) (v := .int 1) (C := R_K) (T := T_K) (N := 17) hx hb hts in_K hown hK hP 0 rfl rfl 0 (by decide) (hts _ ew_419) (fun _ h9 => h9) rfl d_K_wish_31 ?_
    refine lv_if_le (tgt := 39) hx hb d_K_wish_34 (by decide) (fun c_34 => ?_) (fun c_34 => ?_)
    · exact absurd c_34 (by decide)
    · refine lv_iconst (v := 0) hx hb d_K_wish_37 (by decide) ?_
      exact ey_iret (W1 := fun (u : Int32 × ep_F) => [(k0, .inr (4, [.int u.1, .int (nI nB), .int dn, .int wr, .int lf, .int (nI E), .ref a1, .ref a2, .ref a3, .ref a4, .ref a5, .int ch, .ref a6, .ref a7, .ref a8, .int (nI t), .ref a9])), (a8, .inl (cI, 24, .inl u.2))]) hx hb hr hlocks hP hD hS (1, wf) [0, 1] rfl (by decide) (by rw [ek_wish, show ek_knote dn x = 1 from by rw [ek_knote, if_pos c_2], if_neg (by decide)]) d_K_wish_38 (Nat.le_of_ble_eq_true rfl) (Nat.le_of_ble_eq_true rfl)
  · refine lv_iload_n hx hb d_K_wish_5 rfl (lv_at hl 1 rfl) ?_
    refine lv_bipush (v := 23) hx hb d_K_wish_6 (by decide) ?_
    refine lv_icmp_le (tgt := 15) hx hb d_K_wish_8 (by decide) (fun c_8 => ?_) (fun c_8 => ?_)
    · refine lv_aload_n hx hb d_K_wish_15 rfl (lv_at hl 0 rfl) ?_
      refine va_get (D := (dC, dI)) (ci := 4) (v := .int dn) (C := R_K) (T := T_K) (N := 17) hx hb hts in_K hown hK hP 0 rfl rfl 2 (by decide) (hts _ ew_421) (fun _ h9 => h9) rfl d_K_wish_16 ?_
      refine lv_if_eq (tgt := 26) hx hb d_K_wish_19 (by decide) (fun c_19 => ?_) (fun c_19 => ?_)
      · refine lv_iconst (v := 0) hx hb d_K_wish_26 (by decide) ?_
        refine va_put (D := (dC, dI)) (ci := 4) (v := .int 0) (ty := .int) (C := R_K) (T := T_K) (N := 17) hx hb hts in_K t_K t_K_ok n_K hown hK hP hD hS 0 rfl rfl 0 (by decide) (hts _ ew_419) (fun _ h9 => h9) rfl (by decide +kernel) rfl rfl (Nat.le_of_ble_eq_true rfl) d_K_wish_27 (fun H locs hP hD hS => ?_)
        have hP : va_P (dC, dI) vwCl [(k0, .inr (4, [.int 0, .int (nI nB), .int dn, .int wr, .int lf, .int (nI E), .ref a1, .ref a2, .ref a3, .ref a4, .ref a5, .int ch, .ref a6, .ref a7, .ref a8, .int (nI t), .ref a9])), (a8, .inl (cI, 24, .inl wf))] H := hP
        have hD : va_D A [(k0, .inr (4, [.int 0, .int (nI nB), .int dn, .int wr, .int lf, .int (nI E), .ref a1, .ref a2, .ref a3, .ref a4, .ref a5, .int ch, .ref a6, .ref a7, .ref a8, .int (nI t), .ref a9])), (a8, .inl (cI, 24, .inl wf))] := hD
        refine lv_aload_n hx hb d_K_wish_30 rfl (lv_at hl 0 rfl) ?_
        refine va_get (D := (dC, dI)) (ci := 4) (v := .int 0) (C := R_K) (T := T_K) (N := 17) hx hb hts in_K hown hK hP 0 rfl rfl 0 (by decide) (hts _ ew_419) (fun _ h9 => h9) rfl d_K_wish_31 ?_
        refine lv_if_le (tgt := 39) hx hb d_K_wish_34 (by decide) (fun c_34 => ?_) (fun c_34 => ?_)
        · refine lv_aload_n hx hb d_K_wish_39 rfl (lv_at hl 0 rfl) ?_
          refine va_get (D := (dC, dI)) (ci := 4) (v := .ref a8) (C := R_K) (T := T_K) (N := 17) hx hb hts in_K hown hK hP 0 rfl rfl 14 (by decide) (hts _ ew_433) (fun _ h9 => h9) rfl d_K_wish_40 ?_
          refine lv_iload_n hx hb d_K_wish_43 rfl (lv_at hl 1 rfl) ?_
          refine va_iald hx hb hK hP 1 0 rfl rfl (ey_in23 c_2 c_8) d_K_wish_44 ?_
          refine lv_istore_n (lv' := [(3, .int (wf x.toNatClampNeg)), (0, .ref k0), (1, .int x), (2, .int y)]) hx hb d_K_wish_45 rfl hl (by decide) rfl (fun ls hl => ?_)
          refine lv_aload_n hx hb d_K_wish_46 rfl (lv_at hl 1 rfl) ?_
          refine va_get (D := (dC, dI)) (ci := 4) (v := .ref a8) (C := R_K) (T := T_K) (N := 17) hx hb hts in_K hown hK hP 0 rfl rfl 14 (by decide) (hts _ ew_433) (fun _ h9 => h9) rfl d_K_wish_47 ?_
          refine lv_iload_n hx hb d_K_wish_50 rfl (lv_at hl 2 rfl) ?_
          refine lv_iload_n hx hb d_K_wish_51 rfl (lv_at hl 3 rfl) ?_
          refine va_iast hx hb hK hP hD hS 1 0 rfl rfl (ey_in23 c_2 c_8) d_K_wish_52 (fun H locs hP hD hS => ?_)
          have hP : va_P (dC, dI) vwCl [(k0, .inr (4, [.int 0, .int (nI nB), .int dn, .int wr, .int lf, .int (nI E), .ref a1, .ref a2, .ref a3, .ref a4, .ref a5, .int ch, .ref a6, .ref a7, .ref a8, .int (nI t), .ref a9])), (a8, .inl (cI, 24, .inl (upd wf x.toNatClampNeg y)))] H := hP
          have hD : va_D A [(k0, .inr (4, [.int 0, .int (nI nB), .int dn, .int wr, .int lf, .int (nI E), .ref a1, .ref a2, .ref a3, .ref a4, .ref a5, .int ch, .ref a6, .ref a7, .ref a8, .int (nI t), .ref a9])), (a8, .inl (cI, 24, .inl (upd wf x.toNatClampNeg y)))] := hD
          refine lv_iload_n hx hb d_K_wish_53 rfl (lv_at hl 0 rfl) ?_
          exact ey_iret (W1 := fun (u : Int32 × ep_F) => [(k0, .inr (4, [.int u.1, .int (nI nB), .int dn, .int wr, .int lf, .int (nI E), .ref a1, .ref a2, .ref a3, .ref a4, .ref a5, .int ch, .ref a6, .ref a7, .ref a8, .int (nI t), .ref a9])), (a8, .inl (cI, 24, .inl u.2))]) hx hb hr hlocks hP hD hS (0, upd wf x.toNatClampNeg y) [0, 1] rfl (by decide) (by rw [ek_wish, show ek_knote dn x = 0 from by rw [ek_knote, if_neg c_2, if_pos c_8, if_pos c_19], if_pos rfl]) d_K_wish_54 (Nat.le_of_ble_eq_true rfl) (Nat.le_of_ble_eq_true rfl)
        · exact absurd c_34 (by decide)
      · refine lv_iconst (v := 2) hx hb d_K_wish_22 (by decide) ?_
        refine lv_goto (tgt := 27) hx hb d_K_wish_23 (by decide) ?_
        refine va_put (D := (dC, dI)) (ci := 4) (v := .int 2) (ty := .int) (C := R_K) (T := T_K) (N := 17) hx hb hts in_K t_K t_K_ok n_K hown hK hP hD hS 0 rfl rfl 0 (by decide) (hts _ ew_419) (fun _ h9 => h9) rfl (by decide +kernel) rfl rfl (Nat.le_of_ble_eq_true rfl) d_K_wish_27 (fun H locs hP hD hS => ?_)
        have hP : va_P (dC, dI) vwCl [(k0, .inr (4, [.int 2, .int (nI nB), .int dn, .int wr, .int lf, .int (nI E), .ref a1, .ref a2, .ref a3, .ref a4, .ref a5, .int ch, .ref a6, .ref a7, .ref a8, .int (nI t), .ref a9])), (a8, .inl (cI, 24, .inl wf))] H := hP
        have hD : va_D A [(k0, .inr (4, [.int 2, .int (nI nB), .int dn, .int wr, .int lf, .int (nI E), .ref a1, .ref a2, .ref a3, .ref a4, .ref a5, .int ch, .ref a6, .ref a7, .ref a8, .int (nI t), .ref a9])), (a8, .inl (cI, 24, .inl wf))] := hD
        refine lv_aload_n hx hb d_K_wish_30 rfl (lv_at hl 0 rfl) ?_
        refine va_get (D := (dC, dI)) (ci := 4) (v := .int 2) (C := R_K) (T := T_K) (N := 17) hx hb hts in_K hown hK hP 0 rfl rfl 0 (by decide) (hts _ ew_419) (fun _ h9 => h9) rfl d_K_wish_31 ?_
        refine lv_if_le (tgt := 39) hx hb d_K_wish_34 (by decide) (fun c_34 => ?_) (fun c_34 => ?_)
        · exact absurd c_34 (by decide)
        · refine lv_iconst (v := 0) hx hb d_K_wish_37 (by decide) ?_
          exact ey_iret (W1 := fun (u : Int32 × ep_F) => [(k0, .inr (4, [.int u.1, .int (nI nB), .int dn, .int wr, .int lf, .int (nI E), .ref a1, .ref a2, .ref a3, .ref a4, .ref a5, .int ch, .ref a6, .ref a7, .ref a8, .int (nI t), .ref a9])), (a8, .inl (cI, 24, .inl u.2))]) hx hb hr hlocks hP hD hS (2, wf) [0, 1] rfl (by decide) (by rw [ek_wish, show ek_knote dn x = 2 from by rw [ek_knote, if_neg c_2, if_pos c_8, if_neg c_19], if_neg (by decide)]) d_K_wish_38 (Nat.le_of_ble_eq_true rfl) (Nat.le_of_ble_eq_true rfl)
    · refine lv_iconst (v := 1) hx hb d_K_wish_11 (by decide) ?_
      refine lv_goto (tgt := 27) hx hb d_K_wish_12 (by decide) ?_
      refine va_put (D := (dC, dI)) (ci := 4) (v := .int 1) (ty := .int) (C := R_K) (T := T_K) (N := 17) hx hb hts in_K t_K t_K_ok n_K hown hK hP hD hS 0 rfl rfl 0 (by decide) (hts _ ew_419) (fun _ h9 => h9) rfl (by decide +kernel) rfl rfl (Nat.le_of_ble_eq_true rfl) d_K_wish_27 (fun H locs hP hD hS => ?_)
      have hP : va_P (dC, dI) vwCl [(k0, .inr (4, [.int 1, .int (nI nB), .int dn, .int wr, .int lf, .int (nI E), .ref a1, .ref a2, .ref a3, .ref a4, .ref a5, .int ch, .ref a6, .ref a7, .ref a8, .int (nI t), .ref a9])), (a8, .inl (cI, 24, .inl wf))] H := hP
      have hD : va_D A [(k0, .inr (4, [.int 1, .int (nI nB), .int dn, .int wr, .int lf, .int (nI E), .ref a1, .ref a2, .ref a3, .ref a4, .ref a5, .int ch, .ref a6, .ref a7, .ref a8, .int (nI t), .ref a9])), (a8, .inl (cI, 24, .inl wf))] := hD
      refine lv_aload_n hx hb d_K_wish_30 rfl (lv_at hl 0 rfl) ?_
      refine va_get (D := (dC, dI)) (ci := 4) (v := .int 1) (C := R_K) (T := T_K) (N := 17) hx hb hts in_K hown hK hP 0 rfl rfl 0 (by decide) (hts _ ew_419) (fun _ h9 => h9) rfl d_K_wish_31 ?_
      refine lv_if_le (tgt := 39) hx hb d_K_wish_34 (by decide) (fun c_34 => ?_) (fun c_34 => ?_)
      · exact absurd c_34 (by decide)
      · refine lv_iconst (v := 0) hx hb d_K_wish_37 (by decide) ?_
        exact ey_iret (W1 := fun (u : Int32 × ep_F) => [(k0, .inr (4, [.int u.1, .int (nI nB), .int dn, .int wr, .int lf, .int (nI E), .ref a1, .ref a2, .ref a3, .ref a4, .ref a5, .int ch, .ref a6, .ref a7, .ref a8, .int (nI t), .ref a9])), (a8, .inl (cI, 24, .inl u.2))]) hx hb hr hlocks hP hD hS (1, wf) [0, 1] rfl (by decide) (by rw [ek_wish, show ek_knote dn x = 1 from by rw [ek_knote, if_neg c_2, if_neg c_8], if_neg (by decide)]) d_K_wish_38 (Nat.le_of_ble_eq_true rfl) (Nat.le_of_ble_eq_true rfl)
set_option maxHeartbeats 4000000 in
set_option maxRecDepth 100000 in
theorem c_k_note (l : Launch) (dC : Nat → ClassId) (dI : Nat → Nat → Nat) (cI cB cJ cZ : ClassId) (k0 a1 a2 a3 a4 a5 a6 a7 a8 a9 : Nat) (co : Int32) (nB : Nat) (dn wr lf : Int32) (E : Nat) (ch : Int32) (t : Nat) (no : ep_F) (x : Int32) : ey_Mi l y_K_note w_K_note { frames := 0, cells := 0, slots := 0, locals := 0 } (dC, dI) vwCl (ey_kt cI cB cJ cZ) [.ref k0, .int x] [(k0, .inr (4, [.int co, .int (nI nB), .int dn, .int wr, .int lf, .int (nI E), .ref a1, .ref a2, .ref a3, .ref a4, .ref a5, .int ch, .ref a6, .ref a7, .ref a8, .int (nI t), .ref a9])), (a5, .inl (cI, 24, .inl no))] (fun (r : Int32) (u : Int32) => (r, u) = ek_note dn x no) (fun (u : Int32) => [(k0, .inr (4, [.int u, .int (nI nB), .int dn, .int wr, .int lf, .int (nI E), .ref a1, .ref a2, .ref a3, .ref a4, .ref a5, .int ch, .ref a6, .ref a7, .ref a8, .int (nI t), .ref a9])), (a5, .inl (cI, 24, .inl no))]) 0 0 := by
  intro sz
  refine Met.ofW (cc := b_K_note) (maxL := 2) (ret := (some .int)) (by decide) rfl ?_
  intro p e s m args below meth c s₁ B hml hv
  obtain ⟨rfl, hsz, hP, hK, hG, hD0⟩ := hv
  have hx := B.exec
  have hb := B.bytes
  have hr := B.returns
  have hts := fun (w : Cond) (h : w ∈ ew_T) => atoms_spec (ws := w_K_note) B.pre w (List.mem_cons_of_mem _ h)
  have hown : s.vm.findClass R_K = some m.cls := findClass_of_methodNamed B.named
  have hlocks := B.notSynchronized
  subst hsz
  have hD := hD0.self (sz := s.heap.size)
  generalize hAe : va_A [(k0, .inr (4, [.int co, .int (nI nB), .int dn, .int wr, .int lf, .int (nI E), .ref a1, .ref a2, .ref a3, .ref a4, .ref a5, .int ch, .ref a6, .ref a7, .ref a8, .int (nI t), .ref a9])), (a5, .inl (cI, 24, .inl no))] s.heap.size = A at hD ⊢
  have hA : ∀ q : Nat, s.heap.size ≤ q → A q := fun q h => by rw [← hAe]; exact Or.inr h
  have hS : va_S A s.heap s.heap [] := va_S.rf
  have hP : va_P (dC, dI) vwCl [(k0, .inr (4, [.int co, .int (nI nB), .int dn, .int wr, .int lf, .int (nI E), .ref a1, .ref a2, .ref a3, .ref a4, .ref a5, .int ch, .ref a6, .ref a7, .ref a8, .int (nI t), .ref a9])), (a5, .inl (cI, 24, .inl no))] s.heap := hP
  have hl := lv_entry ([.ref k0, .int x]) (n := 2) (Nat.le_of_ble_eq_true rfl)
  rw [lg_entry_eq]
  generalize (lg_sl ([.ref k0, .int x]) ++ List.replicate (2 - (lg_sl ([.ref k0, .int x])).length) Slot.unset).toArray = ls at hl ⊢
  have hl : lv_has ls 2 [(0, .ref k0), (1, .int x)] := hl
  refine lv_aload_n hx hb d_K_note_0 rfl (lv_at hl 0 rfl) ?_
  refine lv_iload_n hx hb d_K_note_1 rfl (lv_at hl 1 rfl) ?_
  refine lv_if_lt (tgt := 11) hx hb d_K_note_2 (by decide) (fun c_2 => ?_) (fun c_2 => ?_)
  · refine lv_iconst (v := 1) hx hb d_K_note_11 (by decide) ?_
    refine lv_goto (tgt := 27) hx hb d_K_note_12 (by decide) ?_
    refine va_put (D := (dC, dI)) (ci := 4) (v := .int 1) (ty := .int) (C := R_K) (T := T_K) (N := 17) hx hb hts in_K t_K t_K_ok n_K hown hK hP hD hS 0 rfl rfl 0 (by decide) (hts _ ew_419) (fun _ h9 => h9) rfl (by decide +kernel) rfl rfl (Nat.le_of_ble_eq_true rfl) d_K_note_27 (fun H locs hP hD hS => ?_)
    have hP : va_P (dC, dI) vwCl [(k0, .inr (4, [.int 1, .int (nI nB), .int dn, .int wr, .int lf, .int (nI E), .ref a1, .ref a2, .ref a3, .ref a4, .ref a5, .int ch, .ref a6, .ref a7, .ref a8, .int (nI t), .ref a9])), (a5, .inl (cI, 24, .inl no))] H := hP
    have hD : va_D A [(k0, .inr (4, [.int 1, .int (nI nB), .int dn, .int wr, .int lf, .int (nI E), .ref a1, .ref a2, .ref a3, .ref a4, .ref a5, .int ch, .ref a6, .ref a7, .ref a8, .int (nI t), .ref a9])), (a5, .inl (cI, 24, .inl no))] := hD
    refine lv_aload_n hx hb d_K_note_30 rfl (lv_at hl 0 rfl) ?_
    refine va_get (D := (dC, dI)) (ci := 4) (v := .int 1) (C := R_K) (T := T_K) (N := 17) hx hb hts in_K hown hK hP 0 rfl rfl 0 (by decide) (hts _ ew_419) (fun _ h9 => h9) rfl d_K_note_31 ?_
    refine lv_if_le (tgt := 41) hx hb d_K_note_34 (by decide) (fun c_34 => ?_) (fun c_34 => ?_)
    · exact absurd c_34 (by decide)
    · refine lv_iconst (v := 0) hx hb d_K_note_37 (by decide) ?_
      refine lv_goto (tgt := 47) hx hb d_K_note_38 (by decide) ?_
      exact ey_iret (W1 := fun (u : Int32) => [(k0, .inr (4, [.int u, .int (nI nB), .int dn, .int wr, .int lf, .int (nI E), .ref a1, .ref a2, .ref a3, .ref a4, .ref a5, .int ch, .ref a6, .ref a7, .ref a8, .int (nI t), .ref a9])), (a5, .inl (cI, 24, .inl no))]) hx hb hr hlocks hP hD hS 1 [0, 1] rfl (by decide) (by rw [ek_note, show ek_knote dn x = 1 from by rw [ek_knote, if_pos c_2], if_neg (by decide)]) d_K_note_47 (Nat.le_of_ble_eq_true rfl) (Nat.le_of_ble_eq_true rfl)
  · refine lv_iload_n hx hb d_K_note_5 rfl (lv_at hl 1 rfl) ?_
    refine lv_bipush (v := 23) hx hb d_K_note_6 (by decide) ?_
    refine lv_icmp_le (tgt := 15) hx hb d_K_note_8 (by decide) (fun c_8 => ?_) (fun c_8 => ?_)
    · refine lv_aload_n hx hb d_K_note_15 rfl (lv_at hl 0 rfl) ?_
      refine va_get (D := (dC, dI)) (ci := 4) (v := .int dn) (C := R_K) (T := T_K) (N := 17) hx hb hts in_K hown hK hP 0 rfl rfl 2 (by decide) (hts _ ew_421) (fun _ h9 => h9) rfl d_K_note_16 ?_
      refine lv_if_eq (tgt := 26) hx hb d_K_note_19 (by decide) (fun c_19 => ?_) (fun c_19 => ?_)
      · refine lv_iconst (v := 0) hx hb d_K_note_26 (by decide) ?_
        refine va_put (D := (dC, dI)) (ci := 4) (v := .int 0) (ty := .int) (C := R_K) (T := T_K) (N := 17) hx hb hts in_K t_K t_K_ok n_K hown hK hP hD hS 0 rfl rfl 0 (by decide) (hts _ ew_419) (fun _ h9 => h9) rfl (by decide +kernel) rfl rfl (Nat.le_of_ble_eq_true rfl) d_K_note_27 (fun H locs hP hD hS => ?_)
        have hP : va_P (dC, dI) vwCl [(k0, .inr (4, [.int 0, .int (nI nB), .int dn, .int wr, .int lf, .int (nI E), .ref a1, .ref a2, .ref a3, .ref a4, .ref a5, .int ch, .ref a6, .ref a7, .ref a8, .int (nI t), .ref a9])), (a5, .inl (cI, 24, .inl no))] H := hP
        have hD : va_D A [(k0, .inr (4, [.int 0, .int (nI nB), .int dn, .int wr, .int lf, .int (nI E), .ref a1, .ref a2, .ref a3, .ref a4, .ref a5, .int ch, .ref a6, .ref a7, .ref a8, .int (nI t), .ref a9])), (a5, .inl (cI, 24, .inl no))] := hD
        refine lv_aload_n hx hb d_K_note_30 rfl (lv_at hl 0 rfl) ?_
        refine va_get (D := (dC, dI)) (ci := 4) (v := .int 0) (C := R_K) (T := T_K) (N := 17) hx hb hts in_K hown hK hP 0 rfl rfl 0 (by decide) (hts _ ew_419) (fun _ h9 => h9) rfl d_K_note_31 ?_
        refine lv_if_le (tgt := 41) hx hb d_K_note_34 (by decide) (fun c_34 => ?_) (fun c_34 => ?_)
        · refine lv_aload_n hx hb d_K_note_41 rfl (lv_at hl 0 rfl) ?_
          refine va_get (D := (dC, dI)) (ci := 4) (v := .ref a5) (C := R_K) (T := T_K) (N := 17) hx hb hts in_K hown hK hP 0 rfl rfl 10 (by decide) (hts _ ew_429) (fun _ h9 => h9) rfl d_K_note_42 ?_
          refine lv_iload_n hx hb d_K_note_45 rfl (lv_at hl 1 rfl) ?_
          refine va_iald hx hb hK hP 1 0 rfl rfl (ey_in23 c_2 c_8) d_K_note_46 ?_
          exact ey_iret (W1 := fun (u : Int32) => [(k0, .inr (4, [.int u, .int (nI nB), .int dn, .int wr, .int lf, .int (nI E), .ref a1, .ref a2, .ref a3, .ref a4, .ref a5, .int ch, .ref a6, .ref a7, .ref a8, .int (nI t), .ref a9])), (a5, .inl (cI, 24, .inl no))]) hx hb hr hlocks hP hD hS 0 [0, 1] rfl (by decide) (by rw [ek_note, show ek_knote dn x = 0 from by rw [ek_knote, if_neg c_2, if_pos c_8, if_pos c_19], if_pos rfl]) d_K_note_47 (Nat.le_of_ble_eq_true rfl) (Nat.le_of_ble_eq_true rfl)
        · exact absurd c_34 (by decide)
      · refine lv_iconst (v := 2) hx hb d_K_note_22 (by decide) ?_
        refine lv_goto (tgt := 27) hx hb d_K_note_23 (by decide) ?_
        refine va_put (D := (dC, dI)) (ci := 4) (v := .int 2) (ty := .int) (C := R_K) (T := T_K) (N := 17) hx hb hts in_K t_K t_K_ok n_K hown hK hP hD hS 0 rfl rfl 0 (by decide) (hts _ ew_419) (fun _ h9 => h9) rfl (by decide +kernel) rfl rfl (Nat.le_of_ble_eq_true rfl) d_K_note_27 (fun H locs hP hD hS => ?_)
        have hP : va_P (dC, dI) vwCl [(k0, .inr (4, [.int 2, .int (nI nB), .int dn, .int wr, .int lf, .int (nI E), .ref a1, .ref a2, .ref a3, .ref a4, .ref a5, .int ch, .ref a6, .ref a7, .ref a8, .int (nI t), .ref a9])), (a5, .inl (cI, 24, .inl no))] H := hP
        have hD : va_D A [(k0, .inr (4, [.int 2, .int (nI nB), .int dn, .int wr, .int lf, .int (nI E), .ref a1, .ref a2, .ref a3, .ref a4, .ref a5, .int ch, .ref a6, .ref a7, .ref a8, .int (nI t), .ref a9])), (a5, .inl (cI, 24, .inl no))] := hD
        refine lv_aload_n hx hb d_K_note_30 rfl (lv_at hl 0 rfl) ?_
        refine va_get (D := (dC, dI)) (ci := 4) (v := .int 2) (C := R_K) (T := T_K) (N := 17) hx hb hts in_K hown hK hP 0 rfl rfl 0 (by decide) (hts _ ew_419) (fun _ h9 => h9) rfl d_K_note_31 ?_
        refine lv_if_le (tgt := 41) hx hb d_K_note_34 (by decide) (fun c_34 => ?_) (fun c_34 => ?_)
        · exact absurd c_34 (by decide)
        · refine lv_iconst (v := 0) hx hb d_K_note_37 (by decide) ?_
          refine lv_goto (tgt := 47) hx hb d_K_note_38 (by decide) ?_
          exact ey_iret (W1 := fun (u : Int32) => [(k0, .inr (4, [.int u, .int (nI nB), .int dn, .int wr, .int lf, .int (nI E), .ref a1, .ref a2, .ref a3, .ref a4, .ref a5, .int ch, .ref a6, .ref a7, .ref a8, .int (nI t), .ref a9])), (a5, .inl (cI, 24, .inl no))]) hx hb hr hlocks hP hD hS 2 [0, 1] rfl (by decide) (by rw [ek_note, show ek_knote dn x = 2 from by rw [ek_knote, if_neg c_2, if_pos c_8, if_neg c_19], if_neg (by decide)]) d_K_note_47 (Nat.le_of_ble_eq_true rfl) (Nat.le_of_ble_eq_true rfl)
    · refine lv_iconst (v := 1) hx hb d_K_note_11 (by decide) ?_
      refine lv_goto (tgt := 27) hx hb d_K_note_12 (by decide) ?_
      refine va_put (D := (dC, dI)) (ci := 4) (v := .int 1) (ty := .int) (C := R_K) (T := T_K) (N := 17) hx hb hts in_K t_K t_K_ok n_K hown hK hP hD hS 0 rfl rfl 0 (by decide) (hts _ ew_419) (fun _ h9 => h9) rfl (by decide +kernel) rfl rfl (Nat.le_of_ble_eq_true rfl) d_K_note_27 (fun H locs hP hD hS => ?_)
      have hP : va_P (dC, dI) vwCl [(k0, .inr (4, [.int 1, .int (nI nB), .int dn, .int wr, .int lf, .int (nI E), .ref a1, .ref a2, .ref a3, .ref a4, .ref a5, .int ch, .ref a6, .ref a7, .ref a8, .int (nI t), .ref a9])), (a5, .inl (cI, 24, .inl no))] H := hP
      have hD : va_D A [(k0, .inr (4, [.int 1, .int (nI nB), .int dn, .int wr, .int lf, .int (nI E), .ref a1, .ref a2, .ref a3, .ref a4, .ref a5, .int ch, .ref a6, .ref a7, .ref a8, .int (nI t), .ref a9])), (a5, .inl (cI, 24, .inl no))] := hD
      refine lv_aload_n hx hb d_K_note_30 rfl (lv_at hl 0 rfl) ?_
      refine va_get (D := (dC, dI)) (ci := 4) (v := .int 1) (C := R_K) (T := T_K) (N := 17) hx hb hts in_K hown hK hP 0 rfl rfl 0 (by decide) (hts _ ew_419) (fun _ h9 => h9) rfl d_K_note_31 ?_
      refine lv_if_le (tgt := 41) hx hb d_K_note_34 (by decide) (fun c_34 => ?_) (fun c_34 => ?_)
      · exact absurd c_34 (by decide)
      · refine lv_iconst (v := 0) hx hb d_K_note_37 (by decide) ?_
        refine lv_goto (tgt := 47) hx hb d_K_note_38 (by decide) ?_
        exact ey_iret (W1 := fun (u : Int32) => [(k0, .inr (4, [.int u, .int (nI nB), .int dn, .int wr, .int lf, .int (nI E), .ref a1, .ref a2, .ref a3, .ref a4, .ref a5, .int ch, .ref a6, .ref a7, .ref a8, .int (nI t), .ref a9])), (a5, .inl (cI, 24, .inl no))]) hx hb hr hlocks hP hD hS 1 [0, 1] rfl (by decide) (by rw [ek_note, show ek_knote dn x = 1 from by rw [ek_knote, if_neg c_2, if_neg c_8], if_neg (by decide)]) d_K_note_47 (Nat.le_of_ble_eq_true rfl) (Nat.le_of_ble_eq_true rfl)
